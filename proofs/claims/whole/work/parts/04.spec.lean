/-! the class: what measure leaves behind -/
theorem cs_row.fg {u : tm_SC} {L : Nat → Prop} {i : Nat} (h : cs_row u L i) : cs_row (cs_fg u) L i := h.same (cs_fgt_a u (by decide) _) (cs_fgt_v u _)
theorem cs_mf_a (u : tm_SC) {j : Nat} (h1 : j ≠ 10) (h2 : j ≠ 11) : ∀ f, (cs_mf u f).2.1 j = u.2.1 j
  | 0 => (cs_look_a (cs_fg u) 0 h1 h2 8).trans (cs_fgt_a u h1 _)
  | f + 1 => (cs_look_a (cs_mf u f) (1 + f) h1 h2 8).trans (cs_mf_a u h1 h2 f)
theorem cs_mf_v (u : tm_SC) : ∀ f, (cs_mf u f).2.2 = u.2.2
  | 0 => (cs_look_v (cs_fg u) 0 8).trans (cs_fgt_v u _)
  | f + 1 => (cs_look_v (cs_mf u f) (1 + f) 8).trans (cs_mf_v u f)
theorem cs_mf_f (u : tm_SC) {j : Nat} (h1 : j ≠ 10) (h2 : j ≠ 4) : ∀ f, (cs_mf u f).1 j = u.1 j
  | 0 => (pk_un h2).trans ((cs_look_f (cs_fg u) 0 h1 8).trans ((pk_un h1).trans (congrFun (cs_fgt_f u _) j)))
  | f + 1 => (pk_un h2).trans ((cs_look_f (cs_mf u f) (1 + f) h1 8).trans (cs_mf_f u h1 h2 f))
theorem cs_mf_L {u : tm_SC} {L M : Nat → Prop} {F : Nat} (hm : cs_LL u M) (hr : ∀ i, i ≤ F → cs_row u L i) : ∀ f, f ≤ F → cs_LL (cs_mf u f) L
  | 0, _ => ((hm.fg L).look (hr 0 (Nat.zero_le _)).fg 8 (Nat.le_refl _)).put4 _
  | f + 1, h => ((cs_mf_L hm hr f (by omega)).look ((hr (1 + f) (by omega)).same (cs_mf_a u (by decide) (by decide) f) (cs_mf_v u f)) 8 (Nat.le_refl _)).put4 _
theorem tm_cnt_mono {f g : Nat → Int32} : ∀ N, (∀ c, c < N → g c = 0 → f c = 0) → tm_cnt f N ≤ tm_cnt g N
  | 0, _ => Nat.le_refl _
  | k + 1, h => by
    have h1 := tm_cnt_mono k (fun c hc => h c (by omega))
    show tm_cnt f k + (if f k = 0 then 0 else 1) ≤ tm_cnt g k + (if g k = 0 then 0 else 1)
    by_cases e : g k = 0
    · rw [if_pos e, if_pos (h k (by omega) e)]; omega
    · rw [if_neg e]; split <;> omega
theorem cs_note_10 {u : tm_SC} {c d : Nat} (h : (cs_note u c).2.1 10 d = 0) : u.2.1 10 d = 0 := by
  by_cases hz : u.2.1 10 c = 0
  · have e : (cs_note u c).2.1 10 = upd (u.2.1 10) c 1 := by rw [show cs_note u c = _ from if_pos hz]; rfl
    rw [e] at h
    by_cases q : d = c
    · rw [q]; exact hz
    · rw [pk_un q] at h; exact h
  · rw [show cs_note u c = u from if_neg hz] at h; exact h
theorem cs_look_10 {u : tm_SC} {i d : Nat} : ∀ k, (cs_look u i k).2.1 10 d = 0 → u.2.1 10 d = 0
  | 0, h => h
  | k + 1, h => by
    unfold cs_look at h
    split at h
    · exact cs_look_10 k (cs_note_10 h)
    · exact cs_look_10 k h
/-- measure's end: n closures are noted, all have been looked through -/
def cs_MP (u : tm_SC) (F : Nat) (L : Nat → Prop) (v : tm_SC) : Prop := ∃ n, n ≤ 120 ∧ v = cs_mc (cs_mf u F) n ∧ n = tm_cnt (v.2.1 10) 120 ∧ cs_LL v L ∧ ∀ k, k < n → k < tm_cnt ((cs_mc (cs_mf u F) k).2.1 10) 120
def cs_snd (u : tm_SC) (f b : Nat) (x : Int32) : tm_SC := cs_ev (tm_sa (cs_set1 (cs_copy u (1 + f) 0) (1 + f) (u.2.2 (0 * 8 + 0))) 6 f x) b
def cs_end (u : tm_SC) : tm_SC := tm_sf (tm_sf (tm_sf u 9 (if u.2.2 (0 * 8 + 0) < 4294967296 then 0 else 1)) 8 (if u.2.2 (0 * 8 + 0) < 4294967296 then (u.2.2 (0 * 8 + 0)).toInt32 else u.2.1 9 (cs_sl (u.2.2 (0 * 8 + 0))))) 1 2
def cs_beg (u : tm_SC) (e : Nat) (x : Int32) : tm_SC := cs_ev (cs_trim (tm_sf (tm_sf (tm_sf (tm_sf (tm_sf u 1 1) 2 x) 3 0) 0 0) 5 0) 0 0) e
theorem cs_beg_8 (u : tm_SC) (e : Nat) (x : Int32) : (cs_beg u e x).2.1 8 0 = 0 := by
  show upd (upd (u.2.1 8) 0 (u.2.1 8 0 &&& 0)) 0 (upd (u.2.1 8) 0 (u.2.1 8 0 &&& 0) 0 &&& u.2.1 4 e) 0 = 0
  rw [pk_us, pk_us, Int32.and_zero, Int32.zero_and]
theorem cs_bt_0 : ∀ k, k < 8 → cs_bt 0 (nI k) = 0 := by decide +kernel
theorem cs_beg_row (u : tm_SC) (e : Nat) (x : Int32) (L : Nat → Prop) : cs_row (cs_beg u e x) L 0 := by
  refine ⟨⟨0, by decide, cs_beg_8 u e x⟩, fun k hk h => ?_⟩
  rw [cs_beg_8] at h
  exact absurd (cs_bt_0 k hk) h
