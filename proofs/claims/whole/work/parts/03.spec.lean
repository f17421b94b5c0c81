/-! the words of both sides as functions of a state -/
def tm_cnt (f : Nat → Int32) : Nat → Nat
  | 0 => 0
  | k + 1 => tm_cnt f k + if f k = 0 then 0 else 1
theorem tm_cnt_le (f : Nat → Int32) : ∀ N, tm_cnt f N ≤ N
  | 0 => Nat.le_refl _
  | k + 1 => by
    have h := tm_cnt_le f k
    show tm_cnt f k + (if f k = 0 then 0 else 1) ≤ k + 1
    split <;> omega
theorem tm_cnt_lt {f : Nat → Int32} {c : Nat} (hf : f c = 0) : ∀ N, c < N → tm_cnt f N < N
  | 0, h => absurd h (Nat.not_lt_zero _)
  | k + 1, h => by
    show tm_cnt f k + (if f k = 0 then 0 else 1) < k + 1
    by_cases e : c = k
    · subst e
      rw [if_pos hf]
      have := tm_cnt_le f c
      omega
    · have := tm_cnt_lt hf k (by omega)
      split <;> omega
theorem tm_cnt_out {f : Nat → Int32} {c : Nat} {x : Int32} : ∀ N, N ≤ c → tm_cnt (upd f c x) N = tm_cnt f N
  | 0, _ => rfl
  | k + 1, h => by
    show tm_cnt (upd f c x) k + (if upd f c x k = 0 then 0 else 1) = tm_cnt f k + (if f k = 0 then 0 else 1)
    rw [tm_cnt_out k (by omega), pk_un (by omega)]
theorem tm_cnt_up {f : Nat → Int32} {c : Nat} (hf : f c = 0) : ∀ N, c < N → tm_cnt (upd f c 1) N = tm_cnt f N + 1
  | 0, h => absurd h (Nat.not_lt_zero _)
  | k + 1, h => by
    show tm_cnt (upd f c 1) k + (if upd f c 1 k = 0 then 0 else 1) = tm_cnt f k + (if f k = 0 then 0 else 1) + 1
    by_cases e : c = k
    · subst e
      rw [tm_cnt_out c (Nat.le_refl _), pk_us, if_pos hf, if_neg (by decide)]
    · rw [tm_cnt_up hf k (by omega), pk_un (fun q => e q.symm)]
      omega
-- the class
def cs_bt (g q : Int32) : Int32 := (g.toUInt32 >>> (q.toUInt32 &&& Int32.toUInt32 31)).toInt32 &&& 1
def cs_trim (u : tm_SC) (i : Nat) (x : Int32) : tm_SC := tm_sa u 8 i (u.2.1 8 i &&& x)
def cs_give (u : tm_SC) (i p : Nat) (x : Int64) : tm_SC := tm_sl (tm_sa u 8 i (u.2.1 8 i ||| (1 <<< (nI p &&& 31)))) (i * 8 + p) x
def cs_set1 (u : tm_SC) (i : Nat) (x : Int64) : tm_SC := cs_give (tm_sa u 8 i 0) i 0 x
def cs_copy (u : tm_SC) (i j : Nat) : tm_SC := tm_sv (tm_sa u 8 j (u.2.1 8 i)) (va_cpy u.2.2 u.2.2 (i * 8) (j * 8) 8)
def cs_copyT (u : tm_SC) (i j : Nat) (x : Int32) : tm_SC := cs_trim (cs_copy u i j) j x
def cs_fgt (u : tm_SC) : Nat → tm_SC
  | 0 => u
  | k + 1 => tm_sa (cs_fgt u k) 10 (u.2.1 11 k).toNatClampNeg 0
theorem cs_fgt_11 (u : tm_SC) : ∀ k, (cs_fgt u k).2.1 11 = u.2.1 11
  | 0 => rfl
  | k + 1 => cs_fgt_11 u k
theorem cs_fgt_f (u : tm_SC) : ∀ k, (cs_fgt u k).1 = u.1
  | 0 => rfl
  | k + 1 => cs_fgt_f u k
def cs_note (u : tm_SC) (c : Nat) : tm_SC := if u.2.1 10 c = 0 then tm_sf (tm_sa (tm_sa u 10 c 1) 11 (u.1 10).toNatClampNeg (nI c)) 10 (u.1 10 + 1) else u
-- the reference
def ms_cpl (u : tm_SC) (i j : Nat) : Nat → tm_SC
  | 0 => u
  | k + 1 => tm_sa (tm_sa (ms_cpl u i j k) 7 (8 * j + k) ((ms_cpl u i j k).2.1 7 (8 * i + k))) 8 (8 * j + k) ((ms_cpl u i j k).2.1 8 (8 * i + k))
def ms_copy (u : tm_SC) (i j : Nat) (x : Int32) : tm_SC := ms_cpl (tm_sa u 6 j (u.2.1 6 i &&& x)) i j 8
def ms_give (u : tm_SC) (i p : Nat) (x c : Int32) : tm_SC := tm_sa (tm_sa (tm_sa u 6 i (u.2.1 6 i ||| (1 <<< (nI p &&& 31)))) 7 (8 * i + p) x) 8 (8 * i + p) c
def ms_ones (x : Int32) : Nat → Int32
  | 0 => 0
  | k + 1 => ms_ones x k + ((x >>> (nI k &&& 31)) &&& 1)
def ms_noteU (u : tm_SC) (c n : Nat) : tm_SC := if u.2.1 10 c = 0 then tm_sa (tm_sf (tm_sa u 10 c 1) 6 (u.1 6 + 1)) 11 n (nI c) else u
def ms_noteN (u : tm_SC) (c n : Nat) : Nat := if u.2.1 10 c = 0 then n + 1 else n
def tm_tot (f : Nat → Int32) (w : Nat → Nat) : Nat → Nat
  | 0 => 0
  | k + 1 => tm_tot f w k + if f k = 0 then 0 else w k
theorem tm_tot_out {f : Nat → Int32} {w : Nat → Nat} {c : Nat} {x : Int32} : ∀ N, N ≤ c → tm_tot (upd f c x) w N = tm_tot f w N
  | 0, _ => rfl
  | k + 1, h => by
    show tm_tot (upd f c x) w k + (if upd f c x k = 0 then 0 else w k) = tm_tot f w k + (if f k = 0 then 0 else w k)
    rw [tm_tot_out k (by omega), pk_un (by omega)]
theorem tm_tot_up {f : Nat → Int32} {w : Nat → Nat} {c : Nat} (hf : f c = 0) : ∀ N, c < N → tm_tot (upd f c 1) w N = tm_tot f w N + w c
  | 0, h => absurd h (Nat.not_lt_zero _)
  | k + 1, h => by
    show tm_tot (upd f c 1) w k + (if upd f c 1 k = 0 then 0 else w k) = tm_tot f w k + (if f k = 0 then 0 else w k) + w c
    by_cases e : c = k
    · subst e
      rw [tm_tot_out c (Nat.le_refl _), pk_us, if_pos hf, if_neg (by decide)]
      omega
    · rw [tm_tot_up hf k (by omega), pk_un (fun q => e q.symm)]
      omega
theorem tm_tot_same {f g : Nat → Int32} {w v : Nat → Nat} : ∀ N, (∀ c, c < N → (f c = 0 ↔ g c = 0)) → (∀ c, c < N → ¬ f c = 0 → w c = v c) → tm_tot f w N = tm_tot g v N
  | 0, _, _ => rfl
  | k + 1, h, h2 => by
    show tm_tot f w k + (if f k = 0 then 0 else w k) = tm_tot g v k + (if g k = 0 then 0 else v k)
    rw [tm_tot_same k (fun c hc => h c (by omega)) (fun c hc => h2 c (by omega))]
    by_cases e : f k = 0
    · rw [if_pos e, if_pos ((h k (by omega)).mp e)]
    · rw [if_neg e, if_neg (fun q => e ((h k (by omega)).mpr q)), h2 k (by omega) e]
theorem tm_cnt_same {f g : Nat → Int32} : ∀ N, (∀ c, c < N → (f c = 0 ↔ g c = 0)) → tm_cnt f N = tm_cnt g N
  | 0, _ => rfl
  | k + 1, h => by
    show tm_cnt f k + (if f k = 0 then 0 else 1) = tm_cnt g k + (if g k = 0 then 0 else 1)
    rw [tm_cnt_same k (fun c hc => h c (by omega))]
    by_cases e : f k = 0
    · rw [if_pos e, if_pos ((h k (by omega)).mp e)]
    · rw [if_neg e, if_neg (fun q => e ((h k (by omega)).mpr q))]
theorem tm_cnt_0 {f : Nat → Int32} : ∀ N, (∀ c, c < N → f c = 0) → tm_cnt f N = 0
  | 0, _ => rfl
  | k + 1, h => by
    show tm_cnt f k + (if f k = 0 then 0 else 1) = 0
    rw [tm_cnt_0 k (fun c hc => h c (by omega)), if_pos (h k (by omega))]
theorem tm_tot_0 {f : Nat → Int32} {w : Nat → Nat} : ∀ N, (∀ c, c < N → f c = 0) → tm_tot f w N = 0
  | 0, _ => rfl
  | k + 1, h => by
    show tm_tot f w k + (if f k = 0 then 0 else w k) = 0
    rw [tm_tot_0 k (fun c hc => h c (by omega)), if_pos (h k (by omega))]
-- what can be reached
def rc_R (root : Nat → Prop) (edge : Nat → Nat → Prop) (c : Nat) : Prop := ∀ P : Nat → Prop, (∀ r, root r → P r) → (∀ a b, P a → edge a b → P b) → P c
theorem rc_root {root : Nat → Prop} {edge : Nat → Nat → Prop} {c : Nat} (h : root c) : rc_R root edge c := fun _ h1 _ => h1 c h
theorem rc_step {root : Nat → Prop} {edge : Nat → Nat → Prop} {a b : Nat} (h : rc_R root edge a) (e : edge a b) : rc_R root edge b := fun P h1 h2 => h2 a b (h P h1 h2) e
theorem rc_iff {root : Nat → Prop} {edge : Nat → Nat → Prop} {S : Nat → Prop} (h1 : ∀ c, root c → S c) (h2 : ∀ a b, S a → edge a b → S b) (h3 : ∀ c, S c → rc_R root edge c) (c : Nat) : S c ↔ rc_R root edge c := ⟨h3 c, fun h => h S h1 h2⟩
-- the class's look through a row
def cs_sl (x : Int64) : Nat := (x - 4294967296).toInt32.toNatClampNeg
def cs_hit (u : tm_SC) (i k : Nat) : Prop := ¬ cs_bt (u.2.1 8 i) (nI k) = 0 ∧ ¬ u.2.2 (i * 8 + k) < 4294967296
def cs_look (u : tm_SC) (i : Nat) : Nat → tm_SC
  | 0 => u
  | k + 1 => if ¬ cs_bt (u.2.1 8 i) (nI k) = 0 ∧ ¬ u.2.2 (i * 8 + k) < 4294967296 then cs_note (cs_look u i k) (cs_sl (u.2.2 (i * 8 + k))) else cs_look u i k
/-! the class: what is noted as living -/
theorem tm_inc (k : Nat) : nI k + Int32.ofInt 1 = nI (k + 1) := (nI_succ k).symm
theorem tm_ite0 {P : Prop} [Decidable P] : (if P then (0 : Int32) else 1) = 0 ↔ P := by
  by_cases h : P
  · rw [if_pos h]; exact ⟨fun _ => h, fun _ => rfl⟩
  · rw [if_neg h]; exact ⟨fun q => absurd q (by decide), fun q => absurd q h⟩
theorem tm_swo3 {x : Int32} (h0 : ¬ x = 0) (h1 : ¬ x = 1) (h2 : ¬ x = 2) : x.toInt < 0 ∨ 2 < x.toInt := by
  have e0 : ¬ x.toInt = 0 := fun q => h0 (Int32.toInt_inj.mp q)
  have e1 : ¬ x.toInt = 1 := fun q => h1 (Int32.toInt_inj.mp q)
  have e2 : ¬ x.toInt = 2 := fun q => h2 (Int32.toInt_inj.mp q)
  omega
def cs_opd (op a b : Int32) : Int32 := if op = 0 then a + b else if op = 1 then a - b else if op = 2 then a * b else if a < b then 1 else 0
def cs_b1 (x : Int32) : Int32 := x - ((x.toUInt32 >>> ((1 : Int32).toUInt32 &&& Int32.toUInt32 31)).toInt32 &&& 1431655765)
def cs_b2 (a : Int32) : Int32 := (a &&& 858993459) + ((a.toUInt32 >>> ((2 : Int32).toUInt32 &&& Int32.toUInt32 31)).toInt32 &&& 858993459)
def cs_b3 (b : Int32) : Int32 := (b + (b.toUInt32 >>> ((4 : Int32).toUInt32 &&& Int32.toUInt32 31)).toInt32) &&& 252645135
def cs_b4 (c : Int32) : Int32 := c + (c.toUInt32 >>> ((8 : Int32).toUInt32 &&& Int32.toUInt32 31)).toInt32
def cs_b5 (d : Int32) : Int32 := d + (d.toUInt32 >>> ((16 : Int32).toUInt32 &&& Int32.toUInt32 31)).toInt32
def cs_bc (x : Int32) : Int32 := cs_b5 (cs_b4 (cs_b3 (cs_b2 (cs_b1 x)))) &&& 63
theorem cs_note_v (u : tm_SC) (c : Nat) : (cs_note u c).2.2 = u.2.2 := by unfold cs_note; split <;> rfl
theorem cs_note_a (u : tm_SC) (c : Nat) {j : Nat} (h1 : j ≠ 10) (h2 : j ≠ 11) : (cs_note u c).2.1 j = u.2.1 j := by
  unfold cs_note
  split
  · show va_up (va_up u.2.1 10 _) 11 _ j = u.2.1 j
    rw [va_up_ne _ _ h2, va_up_ne _ _ h1]
  · rfl
theorem cs_note_f (u : tm_SC) (c : Nat) {j : Nat} (h : j ≠ 10) : (cs_note u c).1 j = u.1 j := by
  unfold cs_note
  split
  · exact pk_un h
  · rfl
theorem cs_look_s {u : tm_SC} {i k : Nat} (h1 : ¬ cs_bt (u.2.1 8 i) (nI k) = 0) (h2 : ¬ u.2.2 (i * 8 + k) < 4294967296) : cs_look u i (k + 1) = cs_note (cs_look u i k) (cs_sl (u.2.2 (i * 8 + k))) := if_pos ⟨h1, h2⟩
theorem cs_look_n {u : tm_SC} {i k : Nat} (h : cs_bt (u.2.1 8 i) (nI k) = 0 ∨ u.2.2 (i * 8 + k) < 4294967296) : cs_look u i (k + 1) = cs_look u i k := if_neg (fun q => h.elim q.1 q.2)
theorem cs_look_v (u : tm_SC) (i : Nat) : ∀ k, (cs_look u i k).2.2 = u.2.2
  | 0 => rfl
  | k + 1 => by
    unfold cs_look
    split
    · rw [cs_note_v]; exact cs_look_v u i k
    · exact cs_look_v u i k
theorem cs_look_a (u : tm_SC) (i : Nat) {j : Nat} (h1 : j ≠ 10) (h2 : j ≠ 11) : ∀ k, (cs_look u i k).2.1 j = u.2.1 j
  | 0 => rfl
  | k + 1 => by
    unfold cs_look
    split
    · rw [cs_note_a _ _ h1 h2]; exact cs_look_a u i h1 h2 k
    · exact cs_look_a u i h1 h2 k
theorem cs_look_f (u : tm_SC) (i : Nat) {j : Nat} (h : j ≠ 10) : ∀ k, (cs_look u i k).1 j = u.1 j
  | 0 => rfl
  | k + 1 => by
    unfold cs_look
    split
    · rw [cs_note_f _ _ h]; exact cs_look_f u i h k
    · exact cs_look_f u i h k
/-- the list of the living: L says which may be there -/
def cs_LL (u : tm_SC) (L : Nat → Prop) : Prop :=
  u.1 10 = nI (tm_cnt (u.2.1 10) 120) ∧ (∀ j, j < tm_cnt (u.2.1 10) 120 → ∃ c, c < 120 ∧ L c ∧ u.2.1 11 j = nI c ∧ ¬ u.2.1 10 c = 0) ∧ (∀ c, c < 120 → ¬ u.2.1 10 c = 0 → ∃ j, j < tm_cnt (u.2.1 10) 120 ∧ u.2.1 11 j = nI c)
theorem cs_LL.room {u : tm_SC} {L : Nat → Prop} (h : cs_LL u L) {c : Nat} (hc : c < 120) (hz : u.2.1 10 c = 0) : vp_in (u.1 10) 120 := by
  rw [h.1]
  exact vp_in_nI (tm_cnt_lt hz 120 hc) (by decide)
theorem cs_LL.note {u : tm_SC} {L : Nat → Prop} (h : cs_LL u L) {c : Nat} (hc : c < 120) (hL : L c) : cs_LL (cs_note u c) L := by
  by_cases hz : u.2.1 10 c = 0
  · have e : cs_note u c = tm_sf (tm_sa (tm_sa u 10 c 1) 11 (u.1 10).toNatClampNeg (nI c)) 10 (u.1 10 + 1) := if_pos hz
    have hlt := tm_cnt_lt hz 120 hc
    have en : (u.1 10).toNatClampNeg = tm_cnt (u.2.1 10) 120 := by rw [h.1]; exact nI_clamp (by omega)
    have e10 : (cs_note u c).2.1 10 = upd (u.2.1 10) c 1 := by rw [e]; rfl
    have e11 : (cs_note u c).2.1 11 = upd (u.2.1 11) (tm_cnt (u.2.1 10) 120) (nI c) := by rw [e, ← en]; rfl
    have ef : (cs_note u c).1 10 = u.1 10 + 1 := by rw [e]; rfl
    have ec : tm_cnt ((cs_note u c).2.1 10) 120 = tm_cnt (u.2.1 10) 120 + 1 := by rw [e10]; exact tm_cnt_up hz 120 hc
    refine ⟨?_, ?_, ?_⟩
    · rw [ec, ef, h.1, nI_1]
    · intro j hj
      rw [ec] at hj
      rw [e11, e10]
      by_cases ej : j = tm_cnt (u.2.1 10) 120
      · exact ⟨c, hc, hL, by rw [ej, pk_us], by rw [pk_us]; decide⟩
      · obtain ⟨d, h1, h2, h3, h4⟩ := h.2.1 j (by omega)
        refine ⟨d, h1, h2, by rw [pk_un ej]; exact h3, ?_⟩
        by_cases ed : d = c
        · rw [ed, pk_us]; decide
        · rw [pk_un ed]; exact h4
    · intro d hd hn
      rw [e10] at hn
      rw [ec, e11]
      by_cases ed : d = c
      · exact ⟨_, Nat.lt_succ_self _, by rw [pk_us, ed]⟩
      · rw [pk_un ed] at hn
        obtain ⟨j, h1, h2⟩ := h.2.2 d hd hn
        exact ⟨j, by omega, by rw [pk_un (by omega)]; exact h2⟩
  · rw [show cs_note u c = u from if_neg hz]; exact h
/-- a row: its mask, and its closures are such as L allows -/
def cs_row (u : tm_SC) (L : Nat → Prop) (i : Nat) : Prop := (∃ m, m < 256 ∧ u.2.1 8 i = nI m) ∧ ∀ k, k < 8 → ¬ cs_bt (u.2.1 8 i) (nI k) = 0 → ¬ u.2.2 (i * 8 + k) < 4294967296 → ∃ c, c < 120 ∧ L c ∧ u.2.2 (i * 8 + k) = 4294967296 + (nI c).toInt64
theorem cs_sl_of {c : Nat} (h : c < 120) : (4294967296 + (nI c).toInt64 - 4294967296).toInt32 = nI c := by
  rw [Int64.add_comm, Int64.add_sub_cancel, nI_l (by omega), lN_i]
theorem cs_sl_n {c : Nat} (h : c < 120) : cs_sl (4294967296 + (nI c).toInt64) = c := by
  unfold cs_sl
  rw [cs_sl_of h]
  exact nI_clamp (by omega)
theorem cs_row.same {u v : tm_SC} {L : Nat → Prop} {i : Nat} (h : cs_row u L i) (e1 : v.2.1 8 = u.2.1 8) (e2 : v.2.2 = u.2.2) : cs_row v L i := by
  unfold cs_row
  rw [e1, e2]; exact h
theorem cs_LL.look {u : tm_SC} {L : Nat → Prop} {i : Nat} (h : cs_LL u L) (hr : cs_row u L i) : ∀ k, k ≤ 8 → cs_LL (cs_look u i k) L
  | 0, _ => h
  | k + 1, hk => by
    have h1 := h.look hr k (by omega)
    by_cases q : ¬ cs_bt (u.2.1 8 i) (nI k) = 0 ∧ ¬ u.2.2 (i * 8 + k) < 4294967296
    · rw [cs_look_s q.1 q.2]
      obtain ⟨c, hc, hL, e⟩ := hr.2 k (by omega) q.1 q.2
      rw [e, cs_sl_n hc]
      exact h1.note hc hL
    · rw [show cs_look u i (k + 1) = cs_look u i k from if_neg q]; exact h1
theorem cs_bt_up : ∀ m, m < 256 → ∀ k, k < 8 → (((nI m).toUInt32 >>> ((nI k).toUInt32 &&& Int32.toUInt32 31)).toInt32 = 0) → ∀ j, j < 8 → k ≤ j → cs_bt (nI m) (nI j) = 0 := by decide +kernel
theorem cs_look_stop {u : tm_SC} {i : Nat} (hm : ∃ m, m < 256 ∧ u.2.1 8 i = nI m) {k : Nat} (hk : k < 8) (h0 : ((u.2.1 8 i).toUInt32 >>> ((nI k).toUInt32 &&& Int32.toUInt32 31)).toInt32 = 0) : ∀ j, k ≤ j → j ≤ 8 → cs_look u i k = cs_look u i j := by
  obtain ⟨m, h1, h2⟩ := hm
  rw [h2] at h0
  intro j
  induction j with
  | zero => intro a _; rw [Nat.le_zero.mp a]
  | succ j ih =>
    intro a b
    by_cases e : k = j + 1
    · rw [e]
    · rw [ih (by omega) (by omega), cs_look_n (Or.inl (by rw [h2]; exact cs_bt_up m h1 k hk h0 j (by omega) (by omega)))]
theorem cs_fgt_10 (u : tm_SC) (c : Nat) : ∀ k, (cs_fgt u k).2.1 10 c = 0 ∨ (cs_fgt u k).2.1 10 c = u.2.1 10 c
  | 0 => Or.inr rfl
  | k + 1 => by
    show upd ((cs_fgt u k).2.1 10) _ 0 c = 0 ∨ upd ((cs_fgt u k).2.1 10) _ 0 c = u.2.1 10 c
    by_cases e : c = (u.2.1 11 k).toNatClampNeg
    · rw [← e, pk_us]; exact Or.inl rfl
    · rw [pk_un e]; exact cs_fgt_10 u c k
theorem cs_fgt_z (u : tm_SC) {j c : Nat} (e : (u.2.1 11 j).toNatClampNeg = c) : ∀ k, j < k → (cs_fgt u k).2.1 10 c = 0
  | 0, h => absurd h (Nat.not_lt_zero _)
  | k + 1, h => by
    show upd ((cs_fgt u k).2.1 10) (u.2.1 11 k).toNatClampNeg 0 c = 0
    by_cases q : c = (u.2.1 11 k).toNatClampNeg
    · rw [← q, pk_us]
    · rw [pk_un q]
      exact cs_fgt_z u e k (by
        have : j ≠ k := fun z => q (by rw [← e, z])
        omega)
def cs_fg (u : tm_SC) : tm_SC := tm_sf (cs_fgt u (tm_cnt (u.2.1 10) 120)) 10 0
theorem cs_fg_0 {u : tm_SC} {L : Nat → Prop} (h : cs_LL u L) {c : Nat} (hc : c < 120) : (cs_fg u).2.1 10 c = 0 := by
  show (cs_fgt u (tm_cnt (u.2.1 10) 120)).2.1 10 c = 0
  by_cases hz : u.2.1 10 c = 0
  · rcases cs_fgt_10 u c (tm_cnt (u.2.1 10) 120) with e | e
    · exact e
    · rw [e]; exact hz
  · obtain ⟨j, h1, h2⟩ := h.2.2 c hc hz
    exact cs_fgt_z u (by rw [h2]; exact nI_clamp (by omega)) _ h1
theorem cs_LL.fg {u : tm_SC} {L : Nat → Prop} (h : cs_LL u L) (M : Nat → Prop) : cs_LL (cs_fg u) M := by
  have e : tm_cnt ((cs_fg u).2.1 10) 120 = 0 := tm_cnt_0 120 (fun c hc => cs_fg_0 h hc)
  refine ⟨by rw [e]; rfl, fun j hj => ?_, fun c hc hn => absurd (cs_fg_0 h hc) hn⟩
  rw [e] at hj
  exact absurd hj (Nat.not_lt_zero _)
theorem cs_fgt_a (u : tm_SC) {j : Nat} (h : j ≠ 10) : ∀ k, (cs_fgt u k).2.1 j = u.2.1 j
  | 0 => rfl
  | k + 1 => by
    show va_up (cs_fgt u k).2.1 10 _ j = u.2.1 j
    rw [va_up_ne _ _ h]; exact cs_fgt_a u h k
theorem cs_fgt_v (u : tm_SC) : ∀ k, (cs_fgt u k).2.2 = u.2.2
  | 0 => rfl
  | k + 1 => cs_fgt_v u k
def cs_ret (u : tm_SC) (x : Int64) : tm_SC := cs_set1 (tm_sf u 6 0) 0 x
def cs_ev (u : tm_SC) (e : Nat) : tm_SC := cs_trim (tm_sf (tm_sf u 6 1) 7 (nI e)) 0 (u.2.1 4 e)
-- the walk of measure
def cs_mf (u : tm_SC) : Nat → tm_SC
  | 0 => tm_sf (cs_look (cs_fg u) 0 8) 4 ((cs_fg u).1 0 + cs_bc ((cs_fg u).2.1 8 0))
  | f + 1 => tm_sf (cs_look (cs_mf u f) (1 + f) 8) 4 ((cs_mf u f).1 4 + cs_bc ((cs_mf u f).2.1 8 (1 + f)))
def cs_mc (u : tm_SC) : Nat → tm_SC
  | 0 => u
  | k + 1 => tm_sf (cs_look (cs_mc u k) (121 + ((cs_mc u k).2.1 11 k).toNatClampNeg) 8) 4 ((cs_mc u k).1 4 + (1 + cs_bc ((cs_mc u k).2.1 8 (121 + ((cs_mc u k).2.1 11 k).toNatClampNeg))))
theorem cs_LL.put4 {u : tm_SC} {L : Nat → Prop} (h : cs_LL u L) (x : Int32) : cs_LL (tm_sf u 4 x) L := h
