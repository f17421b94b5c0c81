/-! both sides side by side: bits, values, rows, what is noted -/
theorem sm_bC : ∀ m, m < 256 → ∀ k, k < 8 → (¬ cs_bt (nI m) (nI k) = 0 ↔ m.testBit k = true) := by decide +kernel
theorem sm_bM : ∀ m, m < 256 → ∀ k, k < 8 → (ms_bt (nI m) (nI k) = 1 ↔ m.testBit k = true) := by decide +kernel
theorem sm_bM0 : ∀ m, m < 256 → ∀ k, k < 8 → (ms_bt (nI m) (nI k) = 0 ↔ ¬ m.testBit k = true) := by decide +kernel
def sm_pc (m : Nat) : Nat := (cs_bc (nI m)).toNatClampNeg
theorem sm_pcC : ∀ m, m < 256 → cs_bc (nI m) = nI (sm_pc m) := by decide +kernel
theorem sm_pcM : ∀ m, m < 256 → ms_ones (nI m) 8 = nI (sm_pc m) := by decide +kernel
theorem sm_pc8 : ∀ m, m < 256 → sm_pc m ≤ 8 := by decide +kernel
theorem sm_pc1 : ∀ m, m < 256 → ∀ k, k < 8 → m.testBit k = true → 1 ≤ sm_pc m := by decide +kernel
theorem sm_clam {m : Nat} (h : m < 256) : (nI m).toNatClampNeg = m := nI_clamp (by omega)
theorem sm_int (x : Int32) : x.toInt64 < 4294967296 := by
  rw [Int64.lt_iff_toInt_lt, Int32.toInt_toInt64]
  have := Int32.toInt_lt x
  have e : (4294967296 : Int64).toInt = 4294967296 := by decide
  omega
theorem sm_clo {c : Nat} (h : c < 120) : ¬ 4294967296 + (nI c).toInt64 < 4294967296 := by
  revert c
  decide +kernel
/-- a value: an int stands for itself, a closure is such as L allows -/
def sm_V (L : Nat → Prop) (x : Int64) (a b : Int32) : Prop := (b = 0 ∧ x = a.toInt64) ∨ (b = 1 ∧ ∃ c, c < 120 ∧ L c ∧ a = nI c ∧ x = 4294967296 + (nI c).toInt64)
theorem sm_V.lt {L : Nat → Prop} {x : Int64} {a b : Int32} (h : sm_V L x a b) : x < 4294967296 ↔ b = 0 := by
  rcases h with ⟨h1, h2⟩ | ⟨h1, c, h2, -, -, h3⟩
  · rw [h2]; exact ⟨fun _ => h1, fun _ => sm_int a⟩
  · rw [h3, h1]; exact ⟨fun q => absurd q (sm_clo h2), fun q => absurd q (by decide)⟩
theorem sm_V.mono {L M : Nat → Prop} {x : Int64} {a b : Int32} (h : sm_V L x a b) (hm : ∀ c, c < 120 → L c → M c) : sm_V M x a b :=
  h.imp id (fun ⟨h1, c, h2, h3, h4⟩ => ⟨h1, c, h2, hm c h2 h3, h4⟩)
theorem sm_V.b {L : Nat → Prop} {x : Int64} {a b : Int32} (h : sm_V L x a b) : tm_b1 b := h.imp (fun q => q.1) (fun q => q.1)
/-- the reference's half -/
def sm_vN (L : Nat → Prop) (a b : Int32) : Prop := b = 0 ∨ (b = 1 ∧ ∃ c, c < 120 ∧ L c ∧ a = nI c)
theorem sm_V.N {L : Nat → Prop} {x : Int64} {a b : Int32} (h : sm_V L x a b) : sm_vN L a b := h.imp (fun q => q.1) (fun ⟨h1, c, h2, h3, h4, _⟩ => ⟨h1, c, h2, h3, h4⟩)
def sm_W (L : Nat → Prop) (u v : tm_SC) (i j : Nat) : Prop := ∃ m, m < 256 ∧ u.2.1 8 i = nI m ∧ v.2.1 6 j = nI m ∧ ∀ k, k < 8 → m.testBit k = true → sm_V L (u.2.2 (i * 8 + k)) (v.2.1 7 (8 * j + k)) (v.2.1 8 (8 * j + k))
def sm_wN (L : Nat → Prop) (v : tm_SC) (j : Nat) : Prop := ∃ m, m < 256 ∧ v.2.1 6 j = nI m ∧ ∀ k, k < 8 → m.testBit k = true → sm_vN L (v.2.1 7 (8 * j + k)) (v.2.1 8 (8 * j + k))
def sm_1 (L : Nat → Prop) (u : tm_SC) (i : Nat) (a b : Int32) : Prop := u.2.1 8 i = 1 ∧ sm_V L (u.2.2 (i * 8 + 0)) a b
theorem sm_W.N {L : Nat → Prop} {u v : tm_SC} {i j : Nat} (h : sm_W L u v i j) : sm_wN L v j := by
  obtain ⟨m, h1, -, h3, h4⟩ := h
  exact ⟨m, h1, h3, fun k hk q => (h4 k hk q).N⟩
theorem sm_W.mono {L M : Nat → Prop} {u v : tm_SC} {i j : Nat} (h : sm_W L u v i j) (hm : ∀ c, c < 120 → L c → M c) : sm_W M u v i j := by
  obtain ⟨m, h1, h2, h3, h4⟩ := h
  exact ⟨m, h1, h2, h3, fun k hk q => (h4 k hk q).mono hm⟩
theorem sm_W.row {L : Nat → Prop} {u v : tm_SC} {i j : Nat} (h : sm_W L u v i j) : cs_row u L i := by
  obtain ⟨m, h1, h2, h3, h4⟩ := h
  refine ⟨⟨m, h1, h2⟩, fun k hk q1 q2 => ?_⟩
  rw [h2] at q1
  rcases h4 k hk ((sm_bC m h1 k hk).mp q1) with ⟨-, e⟩ | ⟨-, c, h5, h6, -, e⟩
  · exact absurd (e ▸ sm_int _) q2
  · exact ⟨c, h5, h6, e⟩
theorem sm_1b : ∀ k, k < 8 → ¬ cs_bt 1 (nI k) = 0 → k = 0 := by decide +kernel
theorem sm_1.row {L : Nat → Prop} {u : tm_SC} {i : Nat} {a b : Int32} (h : sm_1 L u i a b) : cs_row u L i := by
  refine ⟨⟨1, by decide, h.1⟩, fun k hk q1 q2 => ?_⟩
  rw [h.1] at q1
  obtain rfl := sm_1b k hk q1
  rcases h.2 with ⟨-, e⟩ | ⟨-, c, h5, h6, -, e⟩
  · exact absurd (e ▸ sm_int _) q2
  · exact ⟨c, h5, h6, e⟩
theorem sm_wN.row {L : Nat → Prop} {v : tm_SC} {j : Nat} (h : sm_wN L v j) : ms_row v L j := by
  obtain ⟨m, h1, h3, h4⟩ := h
  intro k hk q1 q2
  rw [h3] at q1
  rcases h4 k hk ((sm_bM m h1 k hk).mp q1) with e | ⟨-, c, h5, h6, e⟩
  · exact absurd e q2
  · exact ⟨c, h5, h6, e⟩
-- hits
def sm_hC (u : tm_SC) (i k : Nat) : Option Nat := if ¬ cs_bt (u.2.1 8 i) (nI k) = 0 ∧ ¬ u.2.2 (i * 8 + k) < 4294967296 then some (cs_sl (u.2.2 (i * 8 + k))) else none
def sm_hM (v : tm_SC) (j k : Nat) : Option Nat := if ms_bt (v.2.1 6 j) (nI k) = 1 ∧ ¬ v.2.1 8 (8 * j + k) = 0 then some (v.2.1 7 (8 * j + k)).toNatClampNeg else none
theorem sm_wN.hit {L : Nat → Prop} {v : tm_SC} {j k c : Nat} (h : sm_wN L v j) (hk : k < 8) (e : sm_hM v j k = some c) : (c < 120 ∧ L c) ∧ 1 ≤ sm_pc (v.2.1 6 j).toNatClampNeg := by
  unfold sm_hM at e
  split at e
  · next q =>
    obtain ⟨d, h1, h2, h3⟩ := h.row k hk q.1 q.2
    rw [h3, nI_clamp (by omega)] at e
    cases e
    obtain ⟨m, a1, a2, a3⟩ := h
    rw [a2] at q
    rw [a2, sm_clam a1]
    exact ⟨⟨h1, h2⟩, sm_pc1 m a1 k hk ((sm_bM m a1 k hk).mp q.1)⟩
  · cases e
theorem sm_W.hit {L : Nat → Prop} {u v : tm_SC} {i j k : Nat} (h : sm_W L u v i j) (hk : k < 8) : sm_hC u i k = sm_hM v j k := by
  obtain ⟨m, h1, h2, h3, h4⟩ := h
  unfold sm_hC sm_hM
  rw [h2, h3]
  by_cases t : m.testBit k = true
  · have a := (sm_bC m h1 k hk).mpr t
    have b := (sm_bM m h1 k hk).mpr t
    rcases h4 k hk t with ⟨e1, e2⟩ | ⟨e1, c, hc, -, e2, e3⟩
    · rw [if_neg (fun q => q.2 (e2 ▸ sm_int _)), if_neg (fun q => q.2 e1)]
    · rw [if_pos ⟨a, by rw [e3]; exact sm_clo hc⟩, if_pos ⟨b, by rw [e1]; decide⟩, e3, e2, cs_sl_n hc, nI_clamp (by omega)]
  · rw [if_neg (fun q => t ((sm_bC m h1 k hk).mp q.1)), if_neg (fun q => t ((sm_bM m h1 k hk).mp q.1))]
-- the list of what is noted
abbrev wl_T : Type := (Nat → Int32) × (Nat → Int32) × Nat
def wl_note (w : wl_T) (c : Nat) : wl_T := if w.1 c = 0 then (upd w.1 c 1, upd w.2.1 w.2.2 (nI c), w.2.2 + 1) else w
def wl_opt (w : wl_T) : Option Nat → wl_T
  | none => w
  | some c => wl_note w c
def wl_row (h : Nat → Option Nat) (w : wl_T) : Nat → wl_T
  | 0 => w
  | k + 1 => wl_opt (wl_row h w k) (h k)
def wl_Q (w w' : wl_T) : Prop := w.2.2 = w'.2.2 ∧ (∀ c, c < 120 → w.1 c = w'.1 c) ∧ ∀ j, j < w.2.2 → w.2.1 j = w'.2.1 j
theorem wl_Q.note {w w' : wl_T} (h : wl_Q w w') {c : Nat} (hc : c < 120) : wl_Q (wl_note w c) (wl_note w' c) := by
  unfold wl_note
  rw [← h.2.1 c hc]
  split
  · refine ⟨by show w.2.2 + 1 = w'.2.2 + 1; rw [h.1], fun d hd => ?_, fun j hj => ?_⟩
    · show upd w.1 c 1 d = upd w'.1 c 1 d
      by_cases e : d = c
      · rw [e, pk_us, pk_us]
      · rw [pk_un e, pk_un e]; exact h.2.1 d hd
    · show upd w.2.1 w.2.2 (nI c) j = upd w'.2.1 w'.2.2 (nI c) j
      rw [← h.1]
      by_cases e : j = w.2.2
      · rw [e, pk_us, pk_us]
      · rw [pk_un e, pk_un e]
        exact h.2.2 j (by have : j < w.2.2 + 1 := hj; omega)
  · exact h
theorem wl_Q.row {w w' : wl_T} {h1 h2 : Nat → Option Nat} (h : wl_Q w w') (e : ∀ k, k < 8 → h1 k = h2 k) (hc : ∀ k c, k < 8 → h2 k = some c → c < 120) : ∀ k, k ≤ 8 → wl_Q (wl_row h1 w k) (wl_row h2 w' k)
  | 0, _ => h
  | k + 1, hk => by
    have a := h.row e hc k (by omega)
    show wl_Q (wl_opt (wl_row h1 w k) (h1 k)) (wl_opt (wl_row h2 w' k) (h2 k))
    rw [e k (by omega)]
    cases q : h2 k with
    | none => exact a
    | some c => exact a.note (hc k c (by omega) q)
/-- w' notes what w notes and what H says, the new ones behind the old ones -/
def wl_X (H : Nat → Prop) (w w' : wl_T) : Prop :=
  w.2.2 ≤ w'.2.2 ∧ (∀ j, j < w.2.2 → w'.2.1 j = w.2.1 j) ∧ (∀ c, ¬ w'.1 c = 0 ↔ (¬ w.1 c = 0 ∨ H c)) ∧
  (∀ j, w.2.2 ≤ j → j < w'.2.2 → ∃ c, c < 120 ∧ w'.2.1 j = nI c ∧ w.1 c = 0 ∧ ¬ w'.1 c = 0) ∧
  (∀ i j, w.2.2 ≤ i → i < j → j < w'.2.2 → ¬ w'.2.1 i = w'.2.1 j) ∧
  (∀ c, c < 120 → w.1 c = 0 → ¬ w'.1 c = 0 → ∃ j, w.2.2 ≤ j ∧ j < w'.2.2 ∧ w'.2.1 j = nI c)
theorem wl_X.rf (w : wl_T) : wl_X (fun _ => False) w w :=
  ⟨Nat.le_refl _, fun _ _ => rfl, fun c => ⟨Or.inl, fun q => q.elim id False.elim⟩, fun j h1 h2 => absurd h2 (by omega), fun i j h1 h2 h3 => absurd h3 (by omega), fun c _ h1 h2 => absurd h1 h2⟩
theorem wl_X.nt (w : wl_T) {c : Nat} (hc : c < 120) : wl_X (fun d => d = c) w (wl_note w c) := by
  unfold wl_note
  split
  · next q =>
    refine ⟨Nat.le_succ _, fun j hj => ?_, fun d => ?_, fun j h1 h2 => ?_, fun i j h1 h2 h3 => ?_, fun d hd h1 h2 => ?_⟩
    · exact pk_un (by omega)
    · show ¬ upd w.1 c 1 d = 0 ↔ _
      by_cases e : d = c
      · rw [e, pk_us]; exact ⟨fun _ => Or.inr rfl, fun _ => by decide⟩
      · rw [pk_un e]; exact ⟨Or.inl, fun z => z.elim id (fun y => absurd y e)⟩
    · have e : j = w.2.2 := by have : j < w.2.2 + 1 := h2; omega
      refine ⟨c, hc, ?_, q, ?_⟩
      · rw [e]; exact pk_us
      · show ¬ upd w.1 c 1 c = 0
        rw [pk_us]; decide
    · have : j < w.2.2 + 1 := h3
      omega
    · have e : d = c := by
        by_cases e : d = c
        · exact e
        · exact absurd h1 (by
            have h4 : ¬ upd w.1 c 1 d = 0 := h2
            rw [pk_un e] at h4; exact h4)
      exact ⟨w.2.2, Nat.le_refl _, Nat.lt_succ_self _, by rw [e]; exact pk_us⟩
  · next q =>
    refine ⟨Nat.le_refl _, fun _ _ => rfl, fun d => ⟨Or.inl, fun z => z.elim id (fun y => y ▸ q)⟩, fun j h1 h2 => absurd h2 (by omega), fun i j h1 h2 h3 => absurd h3 (by omega), fun d _ h1 h2 => absurd h1 h2⟩
theorem sm_nIi {a b : Nat} (ha : a < 120) (hb : b < 120) (h : nI a = nI b) : a = b := (nI_eq (by omega) (by omega)).mp h
theorem wl_X.tr {H H' : Nat → Prop} {w w1 w2 : wl_T} (a : wl_X H w w1) (b : wl_X H' w1 w2) : wl_X (fun c => H c ∨ H' c) w w2 := by
  obtain ⟨a1, a2, a3, a4, a5, a6⟩ := a
  obtain ⟨b1, b2, b3, b4, b5, b6⟩ := b
  refine ⟨Nat.le_trans a1 b1, fun j hj => (b2 j (by omega)).trans (a2 j hj), fun c => ?_, fun j h1 h2 => ?_, fun i j h1 h2 h3 => ?_, fun c hc h1 h2 => ?_⟩
  · rw [b3, a3]; exact or_assoc
  · by_cases q : j < w1.2.2
    · obtain ⟨c, k1, k2, k3, k4⟩ := a4 j h1 q
      exact ⟨c, k1, (b2 j q).trans k2, k3, (b3 c).mpr (Or.inl k4)⟩
    · obtain ⟨c, k1, k2, k3, k4⟩ := b4 j (by omega) h2
      refine ⟨c, k1, k2, ?_, k4⟩
      by_cases z : w.1 c = 0
      · exact z
      · exact absurd k3 ((a3 c).mpr (Or.inl z))
  · by_cases q : j < w1.2.2
    · rw [b2 i (by omega), b2 j q]; exact a5 i j h1 h2 q
    · obtain ⟨c, k1, k2, k3, k4⟩ := b4 j (by omega) h3
      by_cases q2 : i < w1.2.2
      · obtain ⟨d, l1, l2, l3, l4⟩ := a4 i h1 q2
        rw [b2 i q2, l2, k2]
        intro z
        rw [sm_nIi l1 k1 z] at l4
        exact l4 k3
      · exact b5 i j (by omega) h2 h3
  · by_cases z : w1.1 c = 0
    · obtain ⟨j, k1, k2, k3⟩ := b6 c hc z h2
      exact ⟨j, by omega, k2, k3⟩
    · obtain ⟨j, k1, k2, k3⟩ := a6 c hc h1 z
      exact ⟨j, k1, by omega, (b2 j k2).trans k3⟩
theorem wl_X.im {H H' : Nat → Prop} {w w' : wl_T} (a : wl_X H w w') (h : ∀ c, H c ↔ H' c) : wl_X H' w w' :=
  ⟨a.1, a.2.1, fun c => (a.2.2.1 c).trans (or_congr_right (h c)), a.2.2.2⟩
theorem wl_X.row (w : wl_T) {h : Nat → Option Nat} (hc : ∀ k c, k < 8 → h k = some c → c < 120) : ∀ k, k ≤ 8 → wl_X (fun c => ∃ i, i < k ∧ h i = some c) w (wl_row h w k)
  | 0, _ => (wl_X.rf w).im (fun c => ⟨False.elim, fun ⟨_, q, _⟩ => absurd q (Nat.not_lt_zero _)⟩)
  | k + 1, hk => by
    have a := wl_X.row w hc k (by omega)
    show wl_X _ w (wl_opt (wl_row h w k) (h k))
    cases q : h k with
    | none =>
      refine a.im (fun c => ⟨fun ⟨i, h1, h2⟩ => ⟨i, by omega, h2⟩, fun ⟨i, h1, h2⟩ => ⟨i, ?_, h2⟩⟩)
      by_cases e : i = k
      · rw [e, q] at h2; cases h2
      · omega
    | some d =>
      refine (a.tr (wl_X.nt _ (hc k d (by omega) q))).im (fun c => ⟨fun z => ?_, fun ⟨i, h1, h2⟩ => ?_⟩)
      · rcases z with ⟨i, h1, h2⟩ | z
        · exact ⟨i, by omega, h2⟩
        · exact ⟨k, by omega, by rw [q, z]⟩
      · by_cases e : i = k
        · rw [e, q] at h2; cases h2; exact Or.inr rfl
        · exact Or.inl ⟨i, by omega, h2⟩
/-- going through: p says which have been gone through, those from lo on wait -/
def wl_I (L R : Nat → Prop) (E : Nat → Nat → Prop) (w : wl_T) (lo : Nat) (p : Nat → Int32) : Prop :=
  (∀ c, c < 120 → ¬ w.1 c = 0 → L c ∧ rc_R R E c) ∧ (∀ c, c < 120 → R c → ¬ w.1 c = 0) ∧
  (∀ j, lo ≤ j → j < w.2.2 → ∃ c, c < 120 ∧ w.2.1 j = nI c ∧ ¬ w.1 c = 0 ∧ p c = 0) ∧
  (∀ i j, lo ≤ i → i < j → j < w.2.2 → ¬ w.2.1 i = w.2.1 j) ∧
  (∀ c, c < 120 → ¬ w.1 c = 0 → ¬ p c = 0 ∨ ∃ j, lo ≤ j ∧ j < w.2.2 ∧ w.2.1 j = nI c) ∧
  (∀ a, a < 120 → ¬ p a = 0 → ¬ w.1 a = 0 ∧ ∀ b, b < 120 → E a b → ¬ w.1 b = 0)
theorem wl_I.q {L R : Nat → Prop} {E : Nat → Nat → Prop} {w w' : wl_T} {lo : Nat} {p : Nat → Int32} (h : wl_I L R E w lo p) (q : wl_Q w w') : wl_I L R E w' lo p := by
  obtain ⟨h1, h2, h3, h4, h5, h6⟩ := h
  obtain ⟨q1, q2, q3⟩ := q
  refine ⟨fun c hc k => h1 c hc (by rw [q2 c hc]; exact k), fun c hc k => by rw [← q2 c hc]; exact h2 c hc k, fun j k1 k2 => ?_, fun i j k1 k2 k3 => ?_, fun c hc k => ?_, fun a ha k => ?_⟩
  · obtain ⟨c, a1, a2, a3, a4⟩ := h3 j k1 (by omega)
    exact ⟨c, a1, (q3 j (by omega)).symm.trans a2, by rw [← q2 c a1]; exact a3, a4⟩
  · rw [← q3 i (by omega), ← q3 j (by omega)]; exact h4 i j k1 k2 (by omega)
  · refine (h5 c hc (by rw [q2 c hc]; exact k)).imp id (fun ⟨j, a1, a2, a3⟩ => ⟨j, a1, by omega, (q3 j a2).symm.trans a3⟩)
  · obtain ⟨b1, b2⟩ := h6 a ha k
    exact ⟨by rw [← q2 a ha]; exact b1, fun b hb z => by rw [← q2 b hb]; exact b2 b hb z⟩
theorem wl_I.step {L R : Nat → Prop} {E : Nat → Nat → Prop} {w w1 w' : wl_T} {lo lo' j0 c : Nat} {p : Nat → Int32} {H : Nat → Prop} (h : wl_I L R E w lo p) (e1 : w1.1 = w.1) (e2 : w1.2.1 = w.2.1)
    (hp : ∀ j, (lo ≤ j ∧ j < w.2.2) ↔ ((lo' ≤ j ∧ j < w1.2.2) ∨ j = j0)) (hn : ¬ (lo' ≤ j0 ∧ j0 < w1.2.2)) (hlo : lo' ≤ w1.2.2) (hc : c < 120) (ec : w.2.1 j0 = nI c) (hx : wl_X H w1 w') (hH : ∀ b, H b ↔ E c b) (hE : ∀ b, E c b → b < 120 ∧ L b) :
    wl_I L R E w' lo' (upd p c 1) ∧ p c = 0 := by
  obtain ⟨h1, h2, h3, h4, h5, h6⟩ := h
  obtain ⟨x1, x2, x3, x4, x5, x6⟩ := hx
  rw [e1, e2] at *
  have hj0 := (hp j0).mpr (Or.inr rfl)
  have hcn : ¬ w.1 c = 0 ∧ p c = 0 := by
    obtain ⟨d, a1, a2, a3, a4⟩ := h3 j0 hj0.1 hj0.2
    rw [ec] at a2
    obtain rfl := sm_nIi hc a1 a2
    exact ⟨a3, a4⟩
  have hold : ∀ j, lo' ≤ j → j < w1.2.2 → (lo ≤ j ∧ j < w.2.2) ∧ j ≠ j0 := fun j a b => ⟨(hp j).mpr (Or.inl ⟨a, b⟩), fun z => hn (z ▸ ⟨a, b⟩)⟩
  refine ⟨⟨fun d hd k => ?_, fun d hd k => (x3 d).mpr (Or.inl (h2 d hd k)), fun j k1 k2 => ?_, fun i j k1 k2 k3 => ?_, fun d hd k => ?_, fun a ha k => ?_⟩, hcn.2⟩
  · rcases (x3 d).mp k with z | z
    · exact h1 d hd z
    · have z2 := (hH d).mp z
      exact ⟨(hE d z2).2, rc_step (h1 c hc hcn.1).2 z2⟩
  · by_cases q : j < w1.2.2
    · obtain ⟨⟨o1, o2⟩, o3⟩ := hold j k1 q
      obtain ⟨d, a1, a2, a3, a4⟩ := h3 j o1 o2
      refine ⟨d, a1, (x2 j q).trans a2, (x3 d).mpr (Or.inl a3), ?_⟩
      rw [pk_un ?_]
      · exact a4
      · rintro rfl
        rcases Nat.lt_or_gt_of_ne o3 with z | z
        · exact h4 j j0 o1 z hj0.2 (a2.trans ec.symm)
        · exact h4 j0 j hj0.1 z o2 (ec.trans a2.symm)
    · obtain ⟨d, a1, a2, a3, a4⟩ := x4 j (by omega) k2
      refine ⟨d, a1, a2, a4, ?_⟩
      rw [pk_un (fun z : d = c => hcn.1 (by rw [← z]; exact a3))]
      by_cases z : p d = 0
      · exact z
      · exact absurd a3 (h6 d a1 z).1
  · by_cases q : j < w1.2.2
    · obtain ⟨⟨o1, o2⟩, o3⟩ := hold i k1 (by omega)
      obtain ⟨⟨o4, o5⟩, o6⟩ := hold j (by omega) q
      rw [x2 i (by omega), x2 j q]
      exact h4 i j o1 k2 o5
    · by_cases q2 : i < w1.2.2
      · obtain ⟨⟨o1, o2⟩, o3⟩ := hold i k1 q2
        obtain ⟨d, a1, a2, a3, a4⟩ := h3 i o1 o2
        obtain ⟨d', b1, b2, b3, b4⟩ := x4 j (by omega) k3
        rw [x2 i q2, a2, b2]
        intro z
        rw [sm_nIi a1 b1 z] at a3
        exact a3 b3
      · exact x5 i j (by omega) k2 k3
  · by_cases z : w.1 d = 0
    · obtain ⟨j, a1, a2, a3⟩ := x6 d hd z k
      exact Or.inr ⟨j, by omega, a2, a3⟩
    · by_cases e : d = c
      · rw [e, pk_us]; exact Or.inl (by decide)
      · rw [pk_un e]
        refine (h5 d hd z).imp id (fun ⟨j, a1, a2, a3⟩ => ?_)
        rcases (hp j).mp ⟨a1, a2⟩ with y | y
        · exact ⟨j, y.1, Nat.lt_of_lt_of_le y.2 x1, (x2 j y.2).trans a3⟩
        · rw [y, ec] at a3
          exact absurd (sm_nIi hc hd a3).symm e
  · by_cases e : a = c
    · rw [e]
      exact ⟨(x3 c).mpr (Or.inl hcn.1), fun b _ z => (x3 b).mpr (Or.inr ((hH b).mpr z))⟩
    · rw [pk_un e] at k
      obtain ⟨a1, a2⟩ := h6 a ha k
      exact ⟨(x3 a).mpr (Or.inl a1), fun b hb z => (x3 b).mpr (Or.inl (a2 b hb z))⟩
theorem wl_I.fin {L R : Nat → Prop} {E : Nat → Nat → Prop} {w : wl_T} {lo : Nat} {p : Nat → Int32} (h : wl_I L R E w lo p) (hlo : w.2.2 ≤ lo) (hR : ∀ c, R c → c < 120) (hE : ∀ a b, E a b → b < 120) : ∀ c, c < 120 → (¬ w.1 c = 0 ↔ rc_R R E c) ∧ (w.1 c = 0 ↔ p c = 0) := by
  obtain ⟨h1, h2, h3, h4, h5, h6⟩ := h
  have h7 : ∀ c, c < 120 → ¬ w.1 c = 0 → ¬ p c = 0 := fun c hc k => (h5 c hc k).elim id (fun ⟨j, a1, a2, _⟩ => absurd a2 (by omega))
  intro c hc
  refine ⟨⟨fun k => (h1 c hc k).2, fun k => (k (fun d => d < 120 ∧ ¬ w.1 d = 0) (fun r q => ⟨hR r q, h2 r (hR r q) q⟩) (fun a b q e => ⟨hE a b e, (h6 a q.1 (h7 a q.1 q.2)).2 b (hE a b e) e⟩)).2⟩, fun k => ?_, fun k => ?_⟩
  · by_cases z : p c = 0
    · exact z
    · exact absurd k (h6 c hc z).1
  · by_cases z : w.1 c = 0
    · exact z
    · exact absurd k (h7 c hc z)
