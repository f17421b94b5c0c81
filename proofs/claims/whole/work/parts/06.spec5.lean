/-! the reference: rows, notes, measure -/
theorem ms_cpl_b {u : tm_SC} {i j : Nat} (h : ∀ m, tm_b1 (u.2.1 8 m)) : ∀ k m, tm_b1 ((ms_cpl u i j k).2.1 8 m)
  | 0, m => h m
  | k + 1, m => by
    show tm_b1 (upd ((ms_cpl u i j k).2.1 8) (8 * j + k) ((ms_cpl u i j k).2.1 8 (8 * i + k)) m)
    by_cases e : m = 8 * j + k
    · rw [e, pk_us]; exact ms_cpl_b h k _
    · rw [pk_un e]; exact ms_cpl_b h k m
theorem ms_copy_b {u : tm_SC} {i j : Nat} {x : Int32} (h : ∀ m, tm_b1 (u.2.1 8 m)) (m : Nat) : tm_b1 ((ms_copy u i j x).2.1 8 m) := ms_cpl_b (u := tm_sa u 6 j (u.2.1 6 i &&& x)) h 8 m
theorem ms_give_b {u : tm_SC} {i p : Nat} {x c : Int32} (h : ∀ m, tm_b1 (u.2.1 8 m)) (hc : tm_b1 c) (m : Nat) : tm_b1 ((ms_give u i p x c).2.1 8 m) := by
  show tm_b1 (upd (u.2.1 8) (8 * i + p) c m)
  by_cases e : m = 8 * i + p
  · rw [e, pk_us]; exact hc
  · rw [pk_un e]; exact h m
theorem ms_cpl_a (u : tm_SC) (i j : Nat) {a : Nat} (h1 : a ≠ 7) (h2 : a ≠ 8) : ∀ k, (ms_cpl u i j k).2.1 a = u.2.1 a
  | 0 => rfl
  | k + 1 => by
    show va_up (va_up (ms_cpl u i j k).2.1 7 _) 8 _ a = u.2.1 a
    rw [va_up_ne _ _ h2, va_up_ne _ _ h1]; exact ms_cpl_a u i j h1 h2 k
theorem ms_cpl_f (u : tm_SC) (i j : Nat) : ∀ k, (ms_cpl u i j k).1 = u.1
  | 0 => rfl
  | k + 1 => ms_cpl_f u i j k
theorem ms_copy_a (u : tm_SC) (i j : Nat) (x : Int32) {a : Nat} (h0 : a ≠ 6) (h1 : a ≠ 7) (h2 : a ≠ 8) : (ms_copy u i j x).2.1 a = u.2.1 a :=
  (ms_cpl_a _ i j h1 h2 8).trans (va_up_ne _ _ h0)
theorem ms_copy_f (u : tm_SC) (i j : Nat) (x : Int32) : (ms_copy u i j x).1 = u.1 := ms_cpl_f _ i j 8
def ms_bt (g q : Int32) : Int32 := (g >>> (q &&& 31)) &&& 1
def ms_na (u : tm_SC) (i n : Nat) : Nat → tm_SC × Nat
  | 0 => (u, n)
  | k + 1 => if ms_bt (u.2.1 6 i) (nI k) = 1 ∧ ¬ u.2.1 8 (8 * i + k) = 0 then (ms_noteU (ms_na u i n k).1 (u.2.1 7 (8 * i + k)).toNatClampNeg (ms_na u i n k).2, ms_noteN (ms_na u i n k).1 (u.2.1 7 (8 * i + k)).toNatClampNeg (ms_na u i n k).2) else ms_na u i n k
theorem ms_na_s {u : tm_SC} {i n k : Nat} (h1 : ms_bt (u.2.1 6 i) (nI k) = 1) (h2 : ¬ u.2.1 8 (8 * i + k) = 0) : ms_na u i n (k + 1) = (ms_noteU (ms_na u i n k).1 (u.2.1 7 (8 * i + k)).toNatClampNeg (ms_na u i n k).2, ms_noteN (ms_na u i n k).1 (u.2.1 7 (8 * i + k)).toNatClampNeg (ms_na u i n k).2) := if_pos ⟨h1, h2⟩
theorem ms_na_0 {u : tm_SC} {i n k : Nat} (h : ¬ ms_bt (u.2.1 6 i) (nI k) = 1 ∨ u.2.1 8 (8 * i + k) = 0) : ms_na u i n (k + 1) = ms_na u i n k := if_neg (fun q => h.elim (fun z => z q.1) q.2)
theorem ms_noteU_a (u : tm_SC) (c n : Nat) {j : Nat} (h1 : j ≠ 10) (h2 : j ≠ 11) : (ms_noteU u c n).2.1 j = u.2.1 j := by
  unfold ms_noteU
  split
  · show va_up (va_up u.2.1 10 _) 11 _ j = u.2.1 j
    rw [va_up_ne _ _ h2, va_up_ne _ _ h1]
  · rfl
theorem ms_noteU_f (u : tm_SC) (c n : Nat) {j : Nat} (h : j ≠ 6) : (ms_noteU u c n).1 j = u.1 j := by
  unfold ms_noteU
  split
  · exact pk_un h
  · rfl
theorem ms_na_a (u : tm_SC) (i n : Nat) {j : Nat} (h1 : j ≠ 10) (h2 : j ≠ 11) : ∀ k, (ms_na u i n k).1.2.1 j = u.2.1 j
  | 0 => rfl
  | k + 1 => by
    unfold ms_na
    split
    · exact (ms_noteU_a _ _ _ h1 h2).trans (ms_na_a u i n h1 h2 k)
    · exact ms_na_a u i n h1 h2 k
theorem ms_na_f (u : tm_SC) (i n : Nat) {j : Nat} (h : j ≠ 6) : ∀ k, (ms_na u i n k).1.1 j = u.1 j
  | 0 => rfl
  | k + 1 => by
    unfold ms_na
    split
    · exact (ms_noteU_f _ _ _ h).trans (ms_na_f u i n h k)
    · exact ms_na_f u i n h k
/-- the open ones: on the stack stand such as L allows, each noted -/
def ms_OS (u : tm_SC) (n : Nat) (L : Nat → Prop) : Prop := n ≤ tm_cnt (u.2.1 10) 130 ∧ ∀ j, j < n → ∃ c, c < 120 ∧ L c ∧ u.2.1 11 j = nI c
theorem ms_OS.room {u : tm_SC} {n : Nat} {L : Nat → Prop} (h : ms_OS u n L) {c : Nat} (hc : c < 120) (hz : u.2.1 10 c = 0) : n < 130 := Nat.lt_of_le_of_lt h.1 (tm_cnt_lt hz 130 (by omega))
theorem ms_OS.note {u : tm_SC} {n : Nat} {L : Nat → Prop} (h : ms_OS u n L) {c : Nat} (hc : c < 120) (hL : L c) : ms_OS (ms_noteU u c n) (ms_noteN u c n) L := by
  by_cases hz : u.2.1 10 c = 0
  · have e : ms_noteU u c n = tm_sa (tm_sf (tm_sa u 10 c 1) 6 (u.1 6 + 1)) 11 n (nI c) := if_pos hz
    have en : ms_noteN u c n = n + 1 := if_pos hz
    have e10 : (ms_noteU u c n).2.1 10 = upd (u.2.1 10) c 1 := by rw [e]; rfl
    have e11 : (ms_noteU u c n).2.1 11 = upd (u.2.1 11) n (nI c) := by rw [e]; rfl
    unfold ms_OS
    rw [en, e10, e11, tm_cnt_up hz 130 (by omega)]
    refine ⟨by have := h.1; omega, fun j hj => ?_⟩
    by_cases ej : j = n
    · exact ⟨c, hc, hL, by rw [ej, pk_us]⟩
    · obtain ⟨d, h1, h2, h3⟩ := h.2 j (by omega)
      exact ⟨d, h1, h2, by rw [pk_un ej]; exact h3⟩
  · rw [show ms_noteU u c n = u from if_neg hz, show ms_noteN u c n = n from if_neg hz]; exact h
def ms_row (u : tm_SC) (L : Nat → Prop) (i : Nat) : Prop := ∀ k, k < 8 → ms_bt (u.2.1 6 i) (nI k) = 1 → ¬ u.2.1 8 (8 * i + k) = 0 → ∃ c, c < 120 ∧ L c ∧ u.2.1 7 (8 * i + k) = nI c
theorem ms_row.same {u v : tm_SC} {L : Nat → Prop} {i : Nat} (h : ms_row u L i) (e6 : v.2.1 6 = u.2.1 6) (e7 : v.2.1 7 = u.2.1 7) (e8 : v.2.1 8 = u.2.1 8) : ms_row v L i := by
  unfold ms_row
  rw [e6, e7, e8]; exact h
theorem ms_OS.all {u : tm_SC} {n : Nat} {L : Nat → Prop} {i : Nat} (h : ms_OS u n L) (hr : ms_row u L i) : ∀ k, k ≤ 8 → ms_OS (ms_na u i n k).1 (ms_na u i n k).2 L
  | 0, _ => h
  | k + 1, hk => by
    have h1 := h.all hr k (by omega)
    by_cases q : ms_bt (u.2.1 6 i) (nI k) = 1 ∧ ¬ u.2.1 8 (8 * i + k) = 0
    · rw [ms_na_s q.1 q.2]
      obtain ⟨c, hc, hL, e⟩ := hr k (by omega) q.1 q.2
      rw [e, nI_clamp (by omega)]
      exact h1.note hc hL
    · rw [show ms_na u i n (k + 1) = ms_na u i n k from if_neg q]; exact h1
theorem ms_OS.put {u : tm_SC} {n : Nat} {L : Nat → Prop} (h : ms_OS u n L) (j : Nat) (x : Int32) : ms_OS (tm_sf u j x) n L := h
def ms_clr (u : tm_SC) : Nat → tm_SC
  | 0 => u
  | k + 1 => tm_sa (ms_clr u k) 10 k 0
theorem ms_clr_a (u : tm_SC) {j : Nat} (h : j ≠ 10) : ∀ k, (ms_clr u k).2.1 j = u.2.1 j
  | 0 => rfl
  | k + 1 => by
    show va_up (ms_clr u k).2.1 10 _ j = u.2.1 j
    rw [va_up_ne _ _ h]; exact ms_clr_a u h k
theorem ms_clr_f (u : tm_SC) : ∀ k, (ms_clr u k).1 = u.1
  | 0 => rfl
  | k + 1 => ms_clr_f u k
theorem ms_clr_0 (u : tm_SC) : ∀ k c, c < k → (ms_clr u k).2.1 10 c = 0
  | 0, _, h => absurd h (Nat.not_lt_zero _)
  | k + 1, c, h => by
    show upd ((ms_clr u k).2.1 10) k 0 c = 0
    by_cases e : c = k
    · rw [e, pk_us]
    · rw [pk_un e]; exact ms_clr_0 u k c (by omega)
/-- measure's start: nothing noted, the state's own space -/
def ms_m0 (u : tm_SC) : tm_SC := tm_sf (tm_sf (ms_clr u 130) 6 0) 5 (if u.1 7 = 0 then ms_ones (u.2.1 6 0) 8 else 1)
def ms_m1 (u : tm_SC) : tm_SC × Nat :=
  if u.1 7 = 0 then ms_na (ms_m0 u) 0 0 8 else if u.1 10 = 0 then (ms_m0 u, 0) else (ms_noteU (ms_m0 u) (u.1 9).toNatClampNeg 0, ms_noteN (ms_m0 u) (u.1 9).toNatClampNeg 0)
abbrev ms_hv (k : Int32) : Prop := k = 1 ∨ k = 3
def ms_fs (w : tm_SC) (f : Nat) : tm_SC := tm_sf w 5 (w.1 5 + (if ms_hv (w.2.1 12 f) then 2 else 1 + ms_ones (w.2.1 6 (1 + f)) 8))
def ms_mf (u : tm_SC) : Nat → tm_SC × Nat
  | 0 => ms_m1 u
  | f + 1 => if ms_hv ((ms_mf u f).1.2.1 12 f) then (if (ms_mf u f).1.2.1 16 f = 0 then (ms_fs (ms_mf u f).1 f, (ms_mf u f).2) else (ms_noteU (ms_fs (ms_mf u f).1 f) ((ms_mf u f).1.2.1 15 f).toNatClampNeg (ms_mf u f).2, ms_noteN (ms_fs (ms_mf u f).1 f) ((ms_mf u f).1.2.1 15 f).toNatClampNeg (ms_mf u f).2)) else ms_na (ms_fs (ms_mf u f).1 f) (1 + f) (ms_mf u f).2 8
def ms_cs (w : tm_SC) (c : Nat) : tm_SC := tm_sf w 5 (w.1 5 + (1 + ms_ones (w.2.1 6 (130 + c)) 8))
def ms_one (p : tm_SC × Nat) : tm_SC × Nat := ms_na (ms_cs p.1 (p.1.2.1 11 (p.2 - 1)).toNatClampNeg) (130 + (p.1.2.1 11 (p.2 - 1)).toNatClampNeg) (p.2 - 1) 8
def ms_it (p : tm_SC × Nat) : Nat → tm_SC × Nat
  | 0 => p
  | k + 1 => ms_one (ms_it p k)
/-- what measure asks of the rows -/
def ms_MI (u : tm_SC) (F : Nat) (L : Nat → Prop) : Prop :=
  u.1 11 = nI F ∧ F ≤ 121 ∧ (u.1 7 = 0 → ms_row u L 0) ∧ (¬ u.1 7 = 0 → ¬ u.1 10 = 0 → ∃ c, c < 120 ∧ L c ∧ u.1 9 = nI c) ∧
  (∀ f, f < F → (ms_hv (u.2.1 12 f) → ¬ u.2.1 16 f = 0 → ∃ c, c < 120 ∧ L c ∧ u.2.1 15 f = nI c) ∧ (¬ ms_hv (u.2.1 12 f) → ms_row u L (1 + f))) ∧ (∀ c, c < 120 → L c → ms_row u L (130 + c))
/-- the same rows -/
def ms_eq (u v : tm_SC) : Prop := (∀ j, j ≠ 10 → j ≠ 11 → v.2.1 j = u.2.1 j) ∧ ∀ j, j ≠ 5 → j ≠ 6 → v.1 j = u.1 j
theorem ms_eq.rf (u : tm_SC) : ms_eq u u := ⟨fun _ _ _ => rfl, fun _ _ _ => rfl⟩
theorem ms_eq.tr {u v w : tm_SC} (a : ms_eq u v) (b : ms_eq v w) : ms_eq u w := ⟨fun j h1 h2 => (b.1 j h1 h2).trans (a.1 j h1 h2), fun j h1 h2 => (b.2 j h1 h2).trans (a.2 j h1 h2)⟩
theorem ms_eq.sp (u : tm_SC) (x : Int32) : ms_eq u (tm_sf u 5 x) := ⟨fun _ _ _ => rfl, fun _ h _ => pk_un h⟩
theorem ms_eq.nu (u : tm_SC) (c n : Nat) : ms_eq u (ms_noteU u c n) := ⟨fun _ h1 h2 => ms_noteU_a u c n h1 h2, fun _ _ h => ms_noteU_f u c n h⟩
theorem ms_eq.na (u : tm_SC) (i n k : Nat) : ms_eq u (ms_na u i n k).1 := ⟨fun _ h1 h2 => ms_na_a u i n h1 h2 k, fun _ _ h => ms_na_f u i n h k⟩
theorem ms_eq.row {u v : tm_SC} (a : ms_eq u v) {L : Nat → Prop} {i : Nat} (h : ms_row u L i) : ms_row v L i := h.same (a.1 6 (by decide) (by decide)) (a.1 7 (by decide) (by decide)) (a.1 8 (by decide) (by decide))
theorem ms_eq.m0 (u : tm_SC) : ms_eq u (ms_m0 u) := ⟨fun j h1 _ => ms_clr_a u h1 130, fun j h1 h2 => (pk_un h1).trans ((pk_un h2).trans (congrFun (ms_clr_f u 130) j))⟩
theorem ms_m0_OS (u : tm_SC) (L : Nat → Prop) : ms_OS (ms_m0 u) 0 L := ⟨Nat.zero_le _, fun _ h => absurd h (Nat.not_lt_zero _)⟩
theorem ms_eq.m1 (u : tm_SC) : ms_eq u (ms_m1 u).1 := by
  unfold ms_m1
  split
  · exact (ms_eq.m0 u).tr (ms_eq.na _ _ _ _)
  · split
    · exact ms_eq.m0 u
    · exact (ms_eq.m0 u).tr (ms_eq.nu _ _ _)
theorem ms_m1_OS {u : tm_SC} {F : Nat} {L : Nat → Prop} (h : ms_MI u F L) : ms_OS (ms_m1 u).1 (ms_m1 u).2 L := by
  unfold ms_m1
  split
  · next q => exact (ms_m0_OS u L).all ((ms_eq.m0 u).row (h.2.2.1 q)) 8 (Nat.le_refl _)
  · next q =>
    split
    · exact ms_m0_OS u L
    · next q2 =>
      obtain ⟨c, hc, hL, e⟩ := h.2.2.2.1 q q2
      rw [e, nI_clamp (by omega)]
      exact (ms_m0_OS u L).note hc hL
theorem ms_eq.mf (u : tm_SC) : ∀ f, ms_eq u (ms_mf u f).1
  | 0 => ms_eq.m1 u
  | f + 1 => by
    have h := ms_eq.mf u f
    unfold ms_mf
    split
    · split
      · exact h.tr (ms_eq.sp _ _)
      · exact (h.tr (ms_eq.sp _ _)).tr (ms_eq.nu _ _ _)
    · exact (h.tr (ms_eq.sp _ _)).tr (ms_eq.na _ _ _ _)
theorem ms_mf_OS {u : tm_SC} {F : Nat} {L : Nat → Prop} (h : ms_MI u F L) : ∀ f, f ≤ F → ms_OS (ms_mf u f).1 (ms_mf u f).2 L
  | 0, _ => ms_m1_OS h
  | f + 1, hf => by
    have h1 := ms_mf_OS h f (by omega)
    have he := ms_eq.mf u f
    have h2 := h.2.2.2.2.1 f (by omega)
    have e12 := congrFun (he.1 12 (by decide) (by decide)) f
    have e15 := congrFun (he.1 15 (by decide) (by decide)) f
    have e16 := congrFun (he.1 16 (by decide) (by decide)) f
    unfold ms_mf
    split
    · next q =>
      split
      · exact h1
      · next q2 =>
        obtain ⟨c, hc, hL, e⟩ := h2.1 (e12 ▸ q) (e16 ▸ q2)
        rw [e15, e, nI_clamp (by omega)]
        exact (h1.put 5 _).note hc hL
    · next q => exact (h1.put 5 _).all ((he.tr (ms_eq.sp _ _)).row (h2.2 (e12 ▸ q))) 8 (Nat.le_refl _)
theorem ms_eq.one (p : tm_SC × Nat) : ms_eq p.1 (ms_one p).1 := (ms_eq.sp _ _).tr (ms_eq.na _ _ _ _)
theorem ms_one_OS {u : tm_SC} {F : Nat} {L : Nat → Prop} (h : ms_MI u F L) {p : tm_SC × Nat} (he : ms_eq u p.1) (h1 : ms_OS p.1 p.2 L) (hp : 0 < p.2) : ms_OS (ms_one p).1 (ms_one p).2 L := by
  obtain ⟨c, hc, hL, e⟩ := h1.2 (p.2 - 1) (by omega)
  unfold ms_one
  rw [e, nI_clamp (by omega)]
  have h3 : ms_OS (ms_cs p.1 c) (p.2 - 1) L := ⟨Nat.le_trans (Nat.sub_le _ _) h1.1, fun j hj => h1.2 j (by omega)⟩
  exact h3.all ((he.tr (ms_eq.sp _ _)).row (h.2.2.2.2.2 c hc hL)) 8 (Nat.le_refl _)
theorem ms_noteU_cn (u : tm_SC) {c : Nat} (n : Nat) (hc : c < 130) : tm_cnt ((ms_noteU u c n).2.1 10) 130 + n = tm_cnt (u.2.1 10) 130 + ms_noteN u c n := by
  by_cases hz : u.2.1 10 c = 0
  · have e : (ms_noteU u c n).2.1 10 = upd (u.2.1 10) c 1 := by rw [show ms_noteU u c n = _ from if_pos hz]; rfl
    rw [e, show ms_noteN u c n = n + 1 from if_pos hz, tm_cnt_up hz 130 hc]; omega
  · rw [show ms_noteU u c n = u from if_neg hz, show ms_noteN u c n = n from if_neg hz]
theorem ms_na_cn {u : tm_SC} {L : Nat → Prop} {i : Nat} (hr : ms_row u L i) (n : Nat) : ∀ k, k ≤ 8 → tm_cnt ((ms_na u i n k).1.2.1 10) 130 + n = tm_cnt (u.2.1 10) 130 + (ms_na u i n k).2
  | 0, _ => rfl
  | k + 1, hk => by
    have h1 := ms_na_cn hr n k (by omega)
    by_cases q : ms_bt (u.2.1 6 i) (nI k) = 1 ∧ ¬ u.2.1 8 (8 * i + k) = 0
    · rw [ms_na_s q.1 q.2]
      obtain ⟨c, hc, -, e⟩ := hr k (by omega) q.1 q.2
      rw [e, nI_clamp (by omega)]
      have h2 := ms_noteU_cn (ms_na u i n k).1 (ms_na u i n k).2 (show c < 130 by omega)
      dsimp only
      omega
    · rw [show ms_na u i n (k + 1) = ms_na u i n k from if_neg q]; exact h1
theorem ms_noteU_10 {u : tm_SC} {c n d : Nat} (h : (ms_noteU u c n).2.1 10 d = 0) : u.2.1 10 d = 0 := by
  by_cases hz : u.2.1 10 c = 0
  · have e : (ms_noteU u c n).2.1 10 = upd (u.2.1 10) c 1 := by rw [show ms_noteU u c n = _ from if_pos hz]; rfl
    rw [e] at h
    by_cases q : d = c
    · rw [q]; exact hz
    · rw [pk_un q] at h; exact h
  · rw [show ms_noteU u c n = u from if_neg hz] at h; exact h
theorem ms_na_10 {u : tm_SC} {i n d : Nat} : ∀ k, (ms_na u i n k).1.2.1 10 d = 0 → u.2.1 10 d = 0
  | 0, h => h
  | k + 1, h => by
    unfold ms_na at h
    split at h
    · exact ms_na_10 k (ms_noteU_10 h)
    · exact ms_na_10 k h
theorem ms_one_10 (p : tm_SC × Nat) : tm_cnt (p.1.2.1 10) 130 ≤ tm_cnt ((ms_one p).1.2.1 10) 130 := by
  refine tm_cnt_mono 130 (fun c _ h => ?_)
  unfold ms_one at h
  have h2 := ms_na_10 8 h
  exact h2
theorem ms_one_mu {u : tm_SC} {F : Nat} {L : Nat → Prop} (h : ms_MI u F L) {p : tm_SC × Nat} (he : ms_eq u p.1) (h1 : ms_OS p.1 p.2 L) (hp : 0 < p.2) : 2 * (130 - tm_cnt ((ms_one p).1.2.1 10) 130) + (ms_one p).2 < 2 * (130 - tm_cnt (p.1.2.1 10) 130) + p.2 := by
  obtain ⟨c, hc, hL, e⟩ := h1.2 (p.2 - 1) (by omega)
  have h2 : tm_cnt ((ms_one p).1.2.1 10) 130 + (p.2 - 1) = tm_cnt (p.1.2.1 10) 130 + (ms_one p).2 := by
    unfold ms_one
    rw [e, nI_clamp (by omega)]
    exact ms_na_cn (u := ms_cs p.1 c) (((he.tr (ms_eq.sp _ _)).row (h.2.2.2.2.2 c hc hL))) (p.2 - 1) 8 (Nat.le_refl _)
  have h3 := tm_cnt_le ((ms_one p).1.2.1 10) 130
  have h5 := ms_one_10 p
  have h4 := tm_cnt_le (p.1.2.1 10) 130
  omega
/-- measure's end -/
def ms_MP (u : tm_SC) (F : Nat) (L : Nat → Prop) (v : tm_SC) : Prop := ∃ K, (∀ k, k < K → 0 < (ms_it (ms_mf u F) k).2) ∧ (ms_it (ms_mf u F) K).2 = 0 ∧ v = (ms_it (ms_mf u F) K).1 ∧ ms_eq u v
