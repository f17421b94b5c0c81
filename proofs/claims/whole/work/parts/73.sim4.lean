/-! what an action leaves as it was: rows r and r', frame g and closure z aside -/
def sm_kC (r r' g z : Nat) (u w : tm_SC) : Prop :=
  (∀ j, j ≠ 0 → j ≠ 6 → j ≠ 7 → w.1 j = u.1 j) ∧ (∀ j, j ≠ 6 → j ≠ 7 → j ≠ 8 → j ≠ 9 → w.2.1 j = u.2.1 j) ∧ (∀ f, f ≠ g → w.2.1 6 f = u.2.1 6 f ∧ w.2.1 7 f = u.2.1 7 f) ∧ (∀ c, c ≠ z → w.2.1 9 c = u.2.1 9 c) ∧
  ∀ i, i ≠ r → i ≠ r' → w.2.1 8 i = u.2.1 8 i ∧ ∀ k, k < 8 → w.2.2 (i * 8 + k) = u.2.2 (i * 8 + k)
def sm_kM (r r' g z : Nat) (v w : tm_SC) : Prop :=
  (∀ j, j < 7 ∨ 11 < j → w.1 j = v.1 j) ∧ (∀ j, j < 6 ∨ j = 10 ∨ j = 11 ∨ 16 < j → w.2.1 j = v.2.1 j) ∧ (∀ f, f ≠ g → ∀ j, 12 ≤ j → j ≤ 16 → w.2.1 j f = v.2.1 j f) ∧ (∀ c, c ≠ z → w.2.1 9 c = v.2.1 9 c) ∧
  ∀ i, i ≠ r → i ≠ r' → w.2.1 6 i = v.2.1 6 i ∧ ∀ k, k < 8 → w.2.1 7 (8 * i + k) = v.2.1 7 (8 * i + k) ∧ w.2.1 8 (8 * i + k) = v.2.1 8 (8 * i + k)
theorem sm_sa (w : tm_SC) (a i : Nat) (x : Int32) (j f : Nat) (h : ¬ (j = a ∧ f = i)) : (tm_sa w a i x).2.1 j f = w.2.1 j f := by
  show va_up w.2.1 a (upd (w.2.1 a) i x) j f = _
  by_cases e : j = a
  · rw [e, va_up_self, pk_un (fun q => h ⟨e, q⟩)]
  · rw [va_up_ne _ _ e]
theorem sm_sas (w : tm_SC) (a i : Nat) (x : Int32) : (tm_sa w a i x).2.1 a i = x := by
  show va_up w.2.1 a (upd (w.2.1 a) i x) a i = _
  rw [va_up_self, pk_us]
theorem sm_saa (w : tm_SC) (a i : Nat) (x : Int32) {j : Nat} (h : j ≠ a) : (tm_sa w a i x).2.1 j = w.2.1 j := va_up_ne _ _ h
section SMK
variable {r r' g z : Nat} {u v w : tm_SC}
theorem sm_kC.rf : sm_kC r r' g z u u := ⟨fun _ _ _ _ => rfl, fun _ _ _ _ _ => rfl, fun _ _ => ⟨rfl, rfl⟩, fun _ _ => rfl, fun _ _ _ => ⟨rfl, fun _ _ => rfl⟩⟩
theorem sm_kC.sf (h : sm_kC r r' g z u w) {j : Nat} (x : Int32) (hj : j = 0 ∨ j = 6 ∨ j = 7) : sm_kC r r' g z u (tm_sf w j x) := ⟨fun i a b c => (pk_un (by omega)).trans (h.1 i a b c), h.2⟩
theorem sm_kC.sa (h : sm_kC r r' g z u w) {a i : Nat} (x : Int32) (ha : (a = 6 ∨ a = 7) ∧ i = g ∨ a = 9 ∧ i = z ∨ a = 8 ∧ (i = r ∨ i = r')) : sm_kC r r' g z u (tm_sa w a i x) :=
  ⟨h.1, fun j a b c d => (sm_saa w _ i x (by omega)).trans (h.2.1 j a b c d), fun f hf => ⟨(sm_sa w a i x 6 f (by omega)).trans (h.2.2.1 f hf).1, (sm_sa w a i x 7 f (by omega)).trans (h.2.2.1 f hf).2⟩,
    fun c hc => (sm_sa w a i x 9 c (by omega)).trans (h.2.2.2.1 c hc), fun i2 h1 h2 => ⟨(sm_sa w a i x 8 i2 (by omega)).trans (h.2.2.2.2 i2 h1 h2).1, (h.2.2.2.2 i2 h1 h2).2⟩⟩
theorem sm_kC.sl (h : sm_kC r r' g z u w) {i p : Nat} (x : Int64) (hp : p < 8) (hi : i = r ∨ i = r') : sm_kC r r' g z u (tm_sl w (i * 8 + p) x) :=
  ⟨h.1, h.2.1, h.2.2.1, h.2.2.2.1, fun i2 h1 h2 => ⟨(h.2.2.2.2 i2 h1 h2).1, fun k hk => (pk_uLn (by omega)).trans ((h.2.2.2.2 i2 h1 h2).2 k hk)⟩⟩
theorem sm_kC.trim (h : sm_kC r r' g z u w) {i : Nat} (x : Int32) (hi : i = r ∨ i = r') : sm_kC r r' g z u (cs_trim w i x) := h.sa _ (Or.inr (Or.inr ⟨rfl, hi⟩))
theorem sm_kC.give (h : sm_kC r r' g z u w) {i p : Nat} (x : Int64) (hp : p < 8) (hi : i = r ∨ i = r') : sm_kC r r' g z u (cs_give w i p x) := (h.sa _ (Or.inr (Or.inr ⟨rfl, hi⟩))).sl x hp hi
theorem sm_kC.set1 (h : sm_kC r r' g z u w) {i : Nat} (x : Int64) (hi : i = r ∨ i = r') : sm_kC r r' g z u (cs_set1 w i x) := (h.sa _ (Or.inr (Or.inr ⟨rfl, hi⟩))).give x (by decide) hi
theorem sm_kC.copy (h : sm_kC r r' g z u w) {i j : Nat} (hj : j = r ∨ j = r') : sm_kC r r' g z u (cs_copy w i j) := by
  have h2 := h.sa (w.2.1 8 i) (a := 8) (i := j) (Or.inr (Or.inr ⟨rfl, hj⟩))
  exact ⟨h2.1, h2.2.1, h2.2.2.1, h2.2.2.2.1, fun i2 h1 h3 => ⟨(h2.2.2.2.2 i2 h1 h3).1, fun k hk => (pk_cpy_out (by omega)).trans ((h.2.2.2.2 i2 h1 h3).2 k hk)⟩⟩
theorem sm_kC.copyT (h : sm_kC r r' g z u w) {i j : Nat} (x : Int32) (hj : j = r ∨ j = r') : sm_kC r r' g z u (cs_copyT w i j x) := (h.copy hj).trim x hj
theorem sm_kM.rf : sm_kM r r' g z v v := ⟨fun _ _ => rfl, fun _ _ => rfl, fun _ _ _ _ _ => rfl, fun _ _ => rfl, fun _ _ _ => ⟨rfl, fun _ _ => ⟨rfl, rfl⟩⟩⟩
theorem sm_kM.sf (h : sm_kM r r' g z v w) {j : Nat} (x : Int32) (h1 : 7 ≤ j) (h2 : j ≤ 11) : sm_kM r r' g z v (tm_sf w j x) := ⟨fun i a => (pk_un (by omega)).trans (h.1 i a), h.2⟩
theorem sm_kM.sa (h : sm_kM r r' g z v w) {a i : Nat} (x : Int32) (ha : (12 ≤ a ∧ a ≤ 16) ∧ i = g ∨ a = 9 ∧ i = z ∨ a = 6 ∧ (i = r ∨ i = r')) : sm_kM r r' g z v (tm_sa w a i x) :=
  ⟨h.1, fun j q => (sm_saa w _ i x (by omega)).trans (h.2.1 j q), fun f hf j h1 h2 => (sm_sa w a i x j f (by omega)).trans (h.2.2.1 f hf j h1 h2),
    fun c hc => (sm_sa w a i x 9 c (by omega)).trans (h.2.2.2.1 c hc), fun i2 h1 h2 => ⟨(sm_sa w a i x 6 i2 (by omega)).trans (h.2.2.2.2 i2 h1 h2).1, fun k hk => ⟨(sm_sa w a i x 7 _ (by omega)).trans ((h.2.2.2.2 i2 h1 h2).2 k hk).1, (sm_sa w a i x 8 _ (by omega)).trans ((h.2.2.2.2 i2 h1 h2).2 k hk).2⟩⟩⟩
theorem sm_kM.sv (h : sm_kM r r' g z v w) {a i p : Nat} (x : Int32) (ha : a = 7 ∨ a = 8) (hp : p < 8) (hi : i = r ∨ i = r') : sm_kM r r' g z v (tm_sa w a (8 * i + p) x) :=
  ⟨h.1, fun j q => (sm_saa w _ _ x (by omega)).trans (h.2.1 j q), fun f hf j h1 h2 => (sm_sa w a _ x j f (by omega)).trans (h.2.2.1 f hf j h1 h2),
    fun c hc => (sm_sa w a _ x 9 c (by omega)).trans (h.2.2.2.1 c hc), fun i2 h1 h2 => ⟨(sm_sa w a _ x 6 i2 (by omega)).trans (h.2.2.2.2 i2 h1 h2).1, fun k hk => ⟨(sm_sa w a _ x 7 _ (by omega)).trans ((h.2.2.2.2 i2 h1 h2).2 k hk).1, (sm_sa w a _ x 8 _ (by omega)).trans ((h.2.2.2.2 i2 h1 h2).2 k hk).2⟩⟩⟩
theorem sm_kM.cpl (h : sm_kM r r' g z v w) {i j : Nat} (hj : j = r ∨ j = r') : ∀ k, k ≤ 8 → sm_kM r r' g z v (ms_cpl w i j k)
  | 0, _ => h
  | k + 1, hk => ((h.cpl hj k (by omega)).sv _ (Or.inl rfl) (by omega) hj).sv _ (Or.inr rfl) (by omega) hj
theorem sm_kM.copy (h : sm_kM r r' g z v w) {i j : Nat} (x : Int32) (hj : j = r ∨ j = r') : sm_kM r r' g z v (ms_copy w i j x) := (h.sa _ (Or.inr (Or.inr ⟨rfl, hj⟩))).cpl hj 8 (Nat.le_refl _)
theorem sm_kM.give (h : sm_kM r r' g z v w) {i p : Nat} (x c : Int32) (hp : p < 8) (hi : i = r ∨ i = r') : sm_kM r r' g z v (ms_give w i p x c) := ((h.sa _ (Or.inr (Or.inr ⟨rfl, hi⟩))).sv x (Or.inl rfl) hp hi).sv c (Or.inr rfl) hp hi
end SMK
theorem sm_cpl7 (w : tm_SC) (i j : Nat) : ∀ k, k ≤ 8 → ∀ q, (ms_cpl w i j k).2.1 7 q = (if 8 * j ≤ q ∧ q < 8 * j + k then w.2.1 7 (8 * i + (q - 8 * j)) else w.2.1 7 q) ∧ (ms_cpl w i j k).2.1 8 q = (if 8 * j ≤ q ∧ q < 8 * j + k then w.2.1 8 (8 * i + (q - 8 * j)) else w.2.1 8 q)
  | 0, _, q => by
    rw [if_neg (by omega), if_neg (by omega)]; exact ⟨rfl, rfl⟩
  | k + 1, hk, q => by
    have ih := sm_cpl7 w i j k (by omega)
    have e7 : (ms_cpl w i j (k + 1)).2.1 7 = upd ((ms_cpl w i j k).2.1 7) (8 * j + k) ((ms_cpl w i j k).2.1 7 (8 * i + k)) := rfl
    have e8 : (ms_cpl w i j (k + 1)).2.1 8 = upd ((ms_cpl w i j k).2.1 8) (8 * j + k) ((ms_cpl w i j k).2.1 8 (8 * i + k)) := rfl
    rw [e7, e8]
    by_cases e : q = 8 * j + k
    · have c1 : ¬ (8 * j ≤ 8 * i + k ∧ 8 * i + k < 8 * j + k) := by omega
      have c2 : 8 * j ≤ 8 * j + k ∧ 8 * j + k < 8 * j + (k + 1) := by omega
      rw [e, pk_us, pk_us, (ih _).1, (ih _).2, if_neg c1, if_neg c1, if_pos c2, if_pos c2]
      rw [show 8 * j + k - 8 * j = k by omega]; exact ⟨rfl, rfl⟩
    · rw [pk_un e, pk_un e, (ih q).1, (ih q).2]
      by_cases b : 8 * j ≤ q ∧ q < 8 * j + k
      · rw [if_pos b, if_pos b, if_pos (by omega), if_pos (by omega)]; exact ⟨rfl, rfl⟩
      · rw [if_neg b, if_neg b, if_neg (by omega), if_neg (by omega)]; exact ⟨rfl, rfl⟩
/-- row j of w is row i of u, trimmed -/
def sm_rC (u : tm_SC) (i : Nat) (w : tm_SC) (j : Nat) (x : Int32) : Prop := w.2.1 8 j = u.2.1 8 i &&& x ∧ ∀ k, k < 8 → w.2.2 (j * 8 + k) = u.2.2 (i * 8 + k)
def sm_rM (v : tm_SC) (i : Nat) (w : tm_SC) (j : Nat) (x : Int32) : Prop := w.2.1 6 j = v.2.1 6 i &&& x ∧ ∀ k, k < 8 → w.2.1 7 (8 * j + k) = v.2.1 7 (8 * i + k) ∧ w.2.1 8 (8 * j + k) = v.2.1 8 (8 * i + k)
theorem sm_copyM (v : tm_SC) (i j : Nat) (x : Int32) : sm_rM v i (ms_copy v i j x) j x := by
  refine ⟨?_, fun k hk => ?_⟩
  · show (ms_cpl (tm_sa v 6 j (v.2.1 6 i &&& x)) i j 8).2.1 6 j = _
    rw [ms_cpl_a _ i j (by decide) (by decide) 8, sm_sas]
  · have := sm_cpl7 (tm_sa v 6 j (v.2.1 6 i &&& x)) i j 8 (Nat.le_refl _) (8 * j + k)
    rw [if_pos (by omega), if_pos (by omega), show 8 * j + k - 8 * j = k by omega] at this
    exact this
theorem sm_and (a b : Nat) : nI a &&& nI b = nI (a &&& b) := by
  apply Int32.toBitVec_inj.mp
  show BitVec.ofNat 32 a &&& BitVec.ofNat 32 b = BitVec.ofNat 32 (a &&& b)
  exact BitVec.ofNat_and.symm
theorem sm_or (a b : Nat) : nI a ||| nI b = nI (a ||| b) := by
  apply Int32.toBitVec_inj.mp
  show BitVec.ofNat 32 a ||| BitVec.ofNat 32 b = BitVec.ofNat 32 (a ||| b)
  exact BitVec.ofNat_or.symm
theorem sm_and_lt {a b : Nat} (h : a < 256) : a &&& b < 256 := Nat.lt_of_le_of_lt Nat.and_le_left h
theorem sm_or_lt {a b : Nat} (h : a < 256) (h2 : b < 256) : a ||| b < 256 := Nat.or_lt_two_pow (n := 8) h h2
theorem sm_shl : ∀ p, p < 8 → (1 : Int32) <<< (nI p &&& 31) = nI (2 ^ p) ∧ 2 ^ p < 256 := by decide +kernel
theorem sm_W.rr {L : Nat → Prop} {u v u' v' : tm_SC} {i j i' j' : Nat} {x : Int32} (h : sm_W L u v i j) (a : sm_rC u i u' i' x) (b : sm_rM v j v' j' x) (hx : ∃ m, m < 256 ∧ x = nI m) : sm_W L u' v' i' j' := by
  obtain ⟨m, h1, h2, h3, h4⟩ := h
  obtain ⟨mx, h5, h6⟩ := hx
  refine ⟨m &&& mx, sm_and_lt h1, ?_, ?_, fun k hk q => ?_⟩
  · rw [a.1, h2, h6, sm_and]
  · rw [b.1, h3, h6, sm_and]
  · rw [Nat.testBit_and, Bool.and_eq_true] at q
    rw [a.2 k hk, (b.2 k hk).1, (b.2 k hk).2]
    exact h4 k hk q.1
theorem sm_W.give {L : Nat → Prop} {u v : tm_SC} {i j p : Nat} {x : Int64} {a b : Int32} (h : sm_W L u v i j) (hp : p < 8) (hv : sm_V L x a b) : sm_W L (cs_give u i p x) (ms_give v j p a b) i j := by
  obtain ⟨m, h1, h2, h3, h4⟩ := h
  obtain ⟨s1, s2⟩ := sm_shl p hp
  refine ⟨m ||| 2 ^ p, sm_or_lt h1 s2, ?_, ?_, fun k hk q => ?_⟩
  · show upd (u.2.1 8) i (u.2.1 8 i ||| (1 <<< (nI p &&& 31))) i = _
    rw [pk_us, h2, s1, sm_or]
  · show upd (v.2.1 6) j (v.2.1 6 j ||| (1 <<< (nI p &&& 31))) j = _
    rw [pk_us, h3, s1, sm_or]
  · show sm_V L (vp_updL u.2.2 (i * 8 + p) x (i * 8 + k)) (upd (v.2.1 7) (8 * j + p) a (8 * j + k)) (upd (v.2.1 8) (8 * j + p) b (8 * j + k))
    by_cases e : k = p
    · rw [e, pk_uLs, pk_us, pk_us]; exact hv
    · rw [pk_uLn (by omega), pk_un (by omega), pk_un (by omega)]
      refine h4 k hk ?_
      rw [Nat.testBit_or, Bool.or_eq_true] at q
      rcases q with q | q
      · exact q
      · rw [Nat.testBit_two_pow] at q
        exact absurd (of_decide_eq_true q).symm e
theorem sm_evC (u : tm_SC) (b : Nat) : sm_rC u 0 (cs_ev u b) 0 (u.2.1 4 b) := by
  refine ⟨?_, fun k hk => rfl⟩
  show upd (u.2.1 8) 0 (u.2.1 8 0 &&& u.2.1 4 b) 0 = _
  rw [pk_us]
theorem sm_cpC (u : tm_SC) (i j : Nat) : (cs_copy u i j).2.1 8 j = u.2.1 8 i ∧ ∀ k, k < 8 → (cs_copy u i j).2.2 (j * 8 + k) = u.2.2 (i * 8 + k) := by
  refine ⟨?_, fun k hk => ?_⟩
  · show upd (u.2.1 8) j (u.2.1 8 i) j = _
    rw [pk_us]
  · show va_cpy u.2.2 u.2.2 (i * 8) (j * 8) 8 (j * 8 + k) = _
    rw [pk_cpy_in (by omega) (by omega), show j * 8 + k - j * 8 = k by omega]
theorem sm_cpT (u : tm_SC) (i j : Nat) (x : Int32) : sm_rC u i (cs_copyT u i j x) j x := by
  refine ⟨?_, (sm_cpC u i j).2⟩
  show upd ((cs_copy u i j).2.1 8) j ((cs_copy u i j).2.1 8 j &&& x) j = _
  rw [pk_us, (sm_cpC u i j).1]
theorem sm_st1 (u : tm_SC) (i : Nat) (x : Int64) : (cs_set1 u i x).2.1 8 i = 1 ∧ (cs_set1 u i x).2.2 (i * 8 + 0) = x := by
  refine ⟨?_, pk_uLs⟩
  show upd (upd (u.2.1 8) i 0) i (upd (u.2.1 8) i 0 i ||| (1 <<< (nI 0 &&& 31))) i = 1
  rw [pk_us, pk_us]; decide
-- the relation of the running states
def sm_X (n : Nat) (u v : tm_SC) (e : Nat) : Prop :=
  (u.2.1 0 e = v.2.1 0 e ∧ u.2.1 4 e = v.2.1 4 e ∧ u.2.1 5 e = v.2.1 5 e ∧ u.2.1 2 e = v.2.1 2 e) ∧ (∃ m, m < 256 ∧ v.2.1 4 e = nI m) ∧ (∃ h, h ≤ 10 ∧ v.2.1 5 e = nI h) ∧
  ((v.2.1 0 e = 0 ∧ u.2.1 1 e = v.2.1 1 e) ∨ (v.2.1 0 e = 1 ∧ u.2.1 1 e = v.2.1 1 e ∧ vp_in (v.2.1 1 e) 8) ∨
   (v.2.1 0 e = 2 ∧ u.2.1 1 e = v.2.1 3 e ∧ u.2.1 3 e = v.2.1 1 e ∧ vp_in (v.2.1 2 e) 8 ∧ vp_in (v.2.1 3 e) n ∧ (v.2.1 1 e = -1 ∨ vp_in (v.2.1 1 e) 8)) ∨
   ((v.2.1 0 e = 3 ∨ v.2.1 0 e = 4 ∨ v.2.1 0 e = 5) ∧ u.2.1 1 e = v.2.1 1 e ∧ u.2.1 3 e = v.2.1 3 e ∧ vp_in (v.2.1 1 e) n ∧ vp_in (v.2.1 2 e) n ∧ (v.2.1 0 e = 5 → vp_in (v.2.1 3 e) n)))
def sm_A (n : Nat) (u v : tm_SC) : Prop := n ≤ 100 ∧ u.1 11 = nI n ∧ v.1 0 = nI n ∧ ∀ e, e < n → sm_X n u v e
theorem sm_A.same {n : Nat} {u v u' v' : tm_SC} (h : sm_A n u v) (a : ∀ j, j < 6 → u'.2.1 j = u.2.1 j) (a2 : u'.1 11 = u.1 11) (b : ∀ j, j < 6 → v'.2.1 j = v.2.1 j) (b2 : v'.1 0 = v.1 0) : sm_A n u' v' := by
  refine ⟨h.1, a2.trans h.2.1, b2.trans h.2.2.1, fun e he => ?_⟩
  unfold sm_X
  rw [a 0 (by decide), a 1 (by decide), a 2 (by decide), a 3 (by decide), a 4 (by decide), a 5 (by decide), b 0 (by decide), b 1 (by decide), b 2 (by decide), b 3 (by decide), b 4 (by decide), b 5 (by decide)]
  exact h.2.2.2 e he
def sm_Fr (n : Nat) (L : Nat → Prop) (u v : tm_SC) (f : Nat) : Prop := ∃ e, e < n ∧ u.2.1 7 f = nI e ∧ u.2.1 6 f = v.2.1 12 f ∧
  ((((v.2.1 12 f = 0 ∧ v.2.1 0 e = 3) ∨ (v.2.1 12 f = 2 ∧ v.2.1 0 e = 4 ∧ v.2.1 14 f = v.2.1 3 e) ∨ (v.2.1 12 f = 4 ∧ v.2.1 0 e = 5 ∧ v.2.1 14 f = v.2.1 3 e)) ∧ v.2.1 13 f = v.2.1 2 e ∧ sm_W L u v (1 + f) (1 + f)) ∨
   (((v.2.1 12 f = 1 ∧ v.2.1 0 e = 3) ∨ (v.2.1 12 f = 3 ∧ v.2.1 0 e = 4 ∧ v.2.1 14 f = v.2.1 3 e)) ∧ sm_1 L u (1 + f) (v.2.1 15 f) (v.2.1 16 f)))
def sm_Cl (n : Nat) (L : Nat → Prop) (u v : tm_SC) (c : Nat) : Prop := ∃ e, e < n ∧ u.2.1 9 c = nI e ∧ v.2.1 9 c = nI e ∧ v.2.1 0 e = 2 ∧ sm_W L u v (121 + c) (130 + c)
def sm_Q (n : Nat) (L : Nat → Prop) (u v : tm_SC) (F : Nat) : Prop := (u.1 0 = nI F ∧ v.1 11 = nI F) ∧ (∀ f, f < F → sm_Fr n L u v f) ∧ ∀ c, c < 120 → L c → sm_Cl n L u v c
def sm_md (n : Nat) (L : Nat → Prop) (u v : tm_SC) : Prop := (u.1 6 = 1 ∧ v.1 7 = 0 ∧ (∃ e, e < n ∧ u.1 7 = nI e ∧ v.1 8 = nI e) ∧ sm_W L u v 0 0) ∨ (u.1 6 = 0 ∧ v.1 7 = 1 ∧ sm_1 L u 0 (v.1 9) (v.1 10))
def sm_P (n : Nat) (L : Nat → Prop) (u v : tm_SC) (F : Nat) : Prop := sm_Q n L u v F ∧ sm_md n L u v
theorem sm_P.M {n : Nat} {L : Nat → Prop} {u v : tm_SC} {F : Nat} (h : sm_P n L u v F) : sm_M L u v F := by
  refine ⟨h.1.1.1, h.1.1.2, h.2.imp (fun q => ⟨q.2.1, q.2.2.2⟩) (fun q => ⟨q.2.1, q.2.2⟩), fun f hf => ?_, fun c hc hL => ?_⟩
  · obtain ⟨e, -, -, -, q⟩ := h.1.2.1 f hf
    refine q.imp (fun q => ⟨fun z => ?_, q.2.2⟩) (fun q => ⟨?_, q.2⟩)
    · rcases q.1 with y | y | y
      · rw [y.1] at z; exact absurd z (by decide)
      · rw [y.1] at z; exact absurd z (by decide)
      · rw [y.1] at z; exact absurd z (by decide)
    · exact q.1.imp (fun y => y.1) (fun y => y.1)
  · obtain ⟨e, -, -, -, -, q⟩ := h.1.2.2 c hc hL
    exact q
section SMQ
variable {n F r r' g z q q' g' z' : Nat} {L : Nat → Prop} {u v u' v' : tm_SC}
theorem sm_W.keep {i j : Nat} (h : sm_W L u v i j) (a : sm_kC r r' g z u u') (b : sm_kM q q' g' z' v v') (hi : i ≠ r ∧ i ≠ r') (hj : j ≠ q ∧ j ≠ q') : sm_W L u' v' i j := by
  obtain ⟨m, h1, h2, h3, h4⟩ := h
  obtain ⟨a1, a2⟩ := a.2.2.2.2 i hi.1 hi.2
  obtain ⟨b1, b2⟩ := b.2.2.2.2 j hj.1 hj.2
  refine ⟨m, h1, a1.trans h2, b1.trans h3, fun k hk t => ?_⟩
  rw [a2 k hk, (b2 k hk).1, (b2 k hk).2]
  exact h4 k hk t
theorem sm_1.keep {i : Nat} {x y : Int32} (h : sm_1 L u i x y) (a : sm_kC r r' g z u u') (hi : i ≠ r ∧ i ≠ r') : sm_1 L u' i x y := by
  obtain ⟨a1, a2⟩ := a.2.2.2.2 i hi.1 hi.2
  exact ⟨a1.trans h.1, by rw [a2 0 (by decide)]; exact h.2⟩
theorem sm_A.keep (h : sm_A n u v) (a : sm_kC r r' g z u u') (b : sm_kM q q' g' z' v v') : sm_A n u' v' :=
  h.same (fun j hj => a.2.1 j (by omega) (by omega) (by omega) (by omega)) (a.1 11 (by decide) (by decide) (by decide)) (fun j hj => b.2.1 j (Or.inl hj)) (b.1 0 (Or.inl (by decide)))
theorem sm_Fr.keep {f : Nat} (h : sm_Fr n L u v f) (a : sm_kC r r' g z u u') (b : sm_kM q q' g' z' v v') (hf : f ≠ g ∧ f ≠ g') (hr : (1 + f ≠ r ∧ 1 + f ≠ r') ∧ 1 + f ≠ q ∧ 1 + f ≠ q') : sm_Fr n L u' v' f := by
  obtain ⟨e, h1, h2, h3, h4⟩ := h
  obtain ⟨a1, a2⟩ := a.2.2.1 f hf.1
  have b1 := b.2.2.1 f hf.2
  refine ⟨e, h1, a2.trans h2, ?_, ?_⟩
  · rw [a1, b1 12 (by decide) (by decide)]; exact h3
  · rw [b1 12 (by decide) (by decide), b1 13 (by decide) (by decide), b1 14 (by decide) (by decide), b1 15 (by decide) (by decide), b1 16 (by decide) (by decide), b.2.1 0 (by decide), b.2.1 2 (by decide), b.2.1 3 (by decide)]
    exact h4.imp (fun y => ⟨y.1, y.2.1, y.2.2.keep a b hr.1 hr.2⟩) (fun y => ⟨y.1, y.2.keep a hr.1⟩)
theorem sm_Cl.keep {c : Nat} (h : sm_Cl n L u v c) (a : sm_kC r r' g z u u') (b : sm_kM q q' g' z' v v') (hc : c ≠ z ∧ c ≠ z') (hr : (121 + c ≠ r ∧ 121 + c ≠ r') ∧ 130 + c ≠ q ∧ 130 + c ≠ q') : sm_Cl n L u' v' c := by
  obtain ⟨e, h1, h2, h3, h4, h5⟩ := h
  exact ⟨e, h1, (a.2.2.2.1 c hc.1).trans h2, (b.2.2.2.1 c hc.2).trans h3, by rw [b.2.1 0 (by decide)]; exact h4, h5.keep a b hr.1 hr.2⟩
theorem sm_Fr.mono {M : Nat → Prop} {f : Nat} (h : sm_Fr n L u v f) (hm : ∀ c, c < 120 → L c → M c) : sm_Fr n M u v f := by
  obtain ⟨e, h1, h2, h3, h4⟩ := h
  exact ⟨e, h1, h2, h3, h4.imp (fun y => ⟨y.1, y.2.1, y.2.2.mono hm⟩) (fun y => ⟨y.1, y.2.1, y.2.2.mono hm⟩)⟩
theorem sm_Cl.mono {M : Nat → Prop} {c : Nat} (h : sm_Cl n L u v c) (hm : ∀ c, c < 120 → L c → M c) : sm_Cl n M u v c := by
  obtain ⟨e, h1, h2, h3, h4, h5⟩ := h
  exact ⟨e, h1, h2, h3, h4, h5.mono hm⟩
/-- only row 0 has changed -/
theorem sm_Q.keep (h : sm_Q n L u v F) (hF : F ≤ 120) (a : sm_kC 0 0 999 999 u u') (b : sm_kM 0 0 999 999 v v') (e1 : u'.1 0 = u.1 0) (e2 : v'.1 11 = v.1 11) : sm_Q n L u' v' F :=
  ⟨⟨e1.trans h.1.1, e2.trans h.1.2⟩, fun f hf => (h.2.1 f hf).keep a b (by omega) (by omega), fun c hc hL => (h.2.2 c hc hL).keep a b (by omega) (by omega)⟩
theorem ms_ei_f (v : tm_SC) (i e : Nat) {j : Nat} (h1 : j ≠ 7) (h2 : j ≠ 8) : (ms_ei v i e).1 j = v.1 j := by
  unfold ms_ei tm_sf
  dsimp only
  rw [pk_un h2, pk_un h1, ms_copy_f]
theorem ms_ei_7 (v : tm_SC) (i e : Nat) : (ms_ei v i e).1 7 = 0 := by
  unfold ms_ei tm_sf
  dsimp only
  rw [pk_un (by decide), pk_us]
theorem ms_ei_8 (v : tm_SC) (i e : Nat) : (ms_ei v i e).1 8 = nI e := by
  unfold ms_ei tm_sf
  dsimp only
  rw [pk_us]
theorem ms_ei_r (v : tm_SC) (i e : Nat) : sm_rM v i (ms_ei v i e) 0 (v.2.1 4 e) := by
  have := sm_copyM v i 0 (v.2.1 4 e)
  unfold ms_ei tm_sf sm_rM
  dsimp only
  exact this
theorem sm_go {b j : Nat} (hA : sm_A n u v) (h : sm_Q n L u v F) (hF : F ≤ 120) (hw : sm_W L u v 0 j) (hb : b < n) : sm_P n L (cs_ev u b) (ms_ei v j b) F := by
  have a : sm_kC 0 0 999 999 u (cs_ev u b) := ((sm_kC.rf.sf _ (by decide)).sf _ (by decide)).trim _ (Or.inl rfl)
  have c : sm_kM 0 0 999 999 v (ms_ei v j b) := ((sm_kM.rf.copy _ (Or.inl rfl)).sf _ (by decide) (by decide)).sf _ (by decide) (by decide)
  refine ⟨h.keep hF a c rfl (ms_ei_f v j b (by decide) (by decide)), Or.inl ⟨rfl, ms_ei_7 v j b, ⟨b, hb, rfl, ms_ei_8 v j b⟩, ?_⟩⟩
  · obtain ⟨⟨-, e4, -⟩, hm, -⟩ := hA.2.2.2 b hb
    have hC := sm_evC u b
    rw [e4] at hC
    exact hw.rr hC (ms_ei_r v j b) hm
theorem sm_rtn {x : Int64} {a b : Int32} (h : sm_Q n L u v F) (hF : F ≤ 120) (hv : sm_V L x a b) : sm_P n L (cs_ret u x) (ms_gb v a b) F := by
  have k1 : sm_kC 0 0 999 999 u (cs_ret u x) := (sm_kC.rf.sf _ (by decide)).set1 _ (Or.inl rfl)
  have k2 : sm_kM 0 0 999 999 v (ms_gb v a b) := ((sm_kM.rf.sf _ (by decide) (by decide)).sf _ (by decide) (by decide)).sf _ (by decide) (by decide)
  obtain ⟨s1, s2⟩ := sm_st1 (tm_sf u 6 0) 0 x
  exact ⟨h.keep hF k1 k2 rfl rfl, Or.inr ⟨rfl, rfl, s1, by rw [show (cs_ret u x).2.2 (0 * 8 + 0) = x from s2]; exact hv⟩⟩
theorem sm_drop {f : Nat} (h : sm_Q n L u v (f + 1)) (hF : f < 120) : sm_Q n L (tm_sf u 0 (nI f)) (tm_sf v 11 (nI f)) f := by
  have k1 : sm_kC 0 0 999 999 u (tm_sf u 0 (nI f)) := sm_kC.rf.sf _ (by decide)
  have k2 : sm_kM 0 0 999 999 v (tm_sf v 11 (nI f)) := sm_kM.rf.sf _ (by decide) (by decide)
  exact ⟨⟨rfl, rfl⟩, fun i hi => (h.2.1 i (by omega)).keep k1 k2 (by omega) (by omega), fun c hc hL => (h.2.2 c hc hL).keep k1 k2 (by omega) (by omega)⟩
theorem sm_pushC {e : Nat} {kd m y : Int32} (hA : sm_A n u v) (h : sm_Q n L u v F) (hF : F < 120) (hw : sm_W L u v 0 0) (he : e < n) (hk : (kd = 0 ∧ v.2.1 0 e = 3) ∨ (kd = 2 ∧ v.2.1 0 e = 4 ∧ y = v.2.1 3 e) ∨ (kd = 4 ∧ v.2.1 0 e = 5 ∧ y = v.2.1 3 e)) (hm : ∃ x, x < 256 ∧ m = nI x) :
    sm_Q n L (tm_sf (cs_copyT (tm_sa (tm_sa u 6 F kd) 7 F (nI e)) 0 (1 + F) m) 0 (nI (F + 1))) (ms_push v F kd (v.2.1 2 e) y m) (F + 1) ∧ sm_W L (tm_sf (cs_copyT (tm_sa (tm_sa u 6 F kd) 7 F (nI e)) 0 (1 + F) m) 0 (nI (F + 1))) (ms_push v F kd (v.2.1 2 e) y m) 0 0 ∧
    sm_A n (tm_sf (cs_copyT (tm_sa (tm_sa u 6 F kd) 7 F (nI e)) 0 (1 + F) m) 0 (nI (F + 1))) (ms_push v F kd (v.2.1 2 e) y m) := by
  have k1 : sm_kC (1 + F) (1 + F) F 999 u (tm_sf (cs_copyT (tm_sa (tm_sa u 6 F kd) 7 F (nI e)) 0 (1 + F) m) 0 (nI (F + 1))) := (((sm_kC.rf.sa _ (Or.inl ⟨Or.inl rfl, rfl⟩)).sa _ (Or.inl ⟨Or.inr rfl, rfl⟩)).copyT _ (Or.inl rfl)).sf _ (by decide)
  have k2 : sm_kM (1 + F) (1 + F) F 999 v (ms_push v F kd (v.2.1 2 e) y m) := ((((sm_kM.rf.sa _ (Or.inl ⟨by decide, rfl⟩)).sa _ (Or.inl ⟨by decide, rfl⟩)).sa _ (Or.inl ⟨by decide, rfl⟩)).copy _ (Or.inl rfl)).sf _ (by decide) (by decide)
  have p2 : ∀ j, j ≠ 6 → j ≠ 7 → j ≠ 8 → (ms_push v F kd (v.2.1 2 e) y m).2.1 j = (tm_sa (tm_sa (tm_sa v 12 F kd) 13 F (v.2.1 2 e)) 14 F y).2.1 j := fun j h1 h2 h3 => ms_copy_a _ _ _ _ h1 h2 h3
  refine ⟨⟨⟨rfl, rfl⟩, fun f hf => ?_, fun c hc hL => (h.2.2 c hc hL).keep k1 k2 (by omega) (by omega)⟩, hw.keep k1 k2 (by omega) (by omega), hA.keep k1 k2⟩
  by_cases ef : f = F
  · subst ef
    refine ⟨e, he, ?_, ?_, Or.inl ⟨?_, ?_, ?_⟩⟩
    · show upd (u.2.1 7) f (nI e) f = nI e
      rw [pk_us]
    · rw [p2 12 (by decide) (by decide) (by decide)]
      show upd (u.2.1 6) f kd f = upd (v.2.1 12) f kd f
      rw [pk_us, pk_us]
    · rw [p2 12 (by decide) (by decide) (by decide), p2 0 (by decide) (by decide) (by decide), p2 14 (by decide) (by decide) (by decide), p2 3 (by decide) (by decide) (by decide)]
      show ((upd (v.2.1 12) f kd f = 0 ∧ v.2.1 0 e = 3) ∨ (upd (v.2.1 12) f kd f = 2 ∧ v.2.1 0 e = 4 ∧ upd (v.2.1 14) f y f = v.2.1 3 e) ∨ (upd (v.2.1 12) f kd f = 4 ∧ v.2.1 0 e = 5 ∧ upd (v.2.1 14) f y f = v.2.1 3 e))
      rw [pk_us, pk_us]; exact hk
    · rw [p2 13 (by decide) (by decide) (by decide), p2 2 (by decide) (by decide) (by decide)]
      show upd (v.2.1 13) f (v.2.1 2 e) f = v.2.1 2 e
      rw [pk_us]
    · exact hw.rr (sm_cpT (tm_sa (tm_sa u 6 f kd) 7 f (nI e)) 0 (1 + f) m) (sm_copyM (tm_sa (tm_sa (tm_sa v 12 f kd) 13 f (v.2.1 2 e)) 14 f y) 0 (1 + f) m) hm
  · exact (h.2.1 f (by omega)).keep k1 k2 (by omega) (by omega)
end SMQ
