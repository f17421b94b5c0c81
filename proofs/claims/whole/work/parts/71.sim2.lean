/-! both sides side by side: measure -/
def sm_N (L : Nat → Prop) (v : tm_SC) (F : Nat) : Prop := v.1 11 = nI F ∧ ((v.1 7 = 0 ∧ sm_wN L v 0) ∨ (v.1 7 = 1 ∧ sm_vN L (v.1 9) (v.1 10))) ∧
  (∀ f, f < F → (¬ ms_hv (v.2.1 12 f) ∧ sm_wN L v (1 + f)) ∨ (ms_hv (v.2.1 12 f) ∧ sm_vN L (v.2.1 15 f) (v.2.1 16 f))) ∧ ∀ c, c < 120 → L c → sm_wN L v (130 + c)
def sm_M (L : Nat → Prop) (u v : tm_SC) (F : Nat) : Prop := u.1 0 = nI F ∧ v.1 11 = nI F ∧ ((v.1 7 = 0 ∧ sm_W L u v 0 0) ∨ (v.1 7 = 1 ∧ sm_1 L u 0 (v.1 9) (v.1 10))) ∧
  (∀ f, f < F → (¬ ms_hv (v.2.1 12 f) ∧ sm_W L u v (1 + f) (1 + f)) ∨ (ms_hv (v.2.1 12 f) ∧ sm_1 L u (1 + f) (v.2.1 15 f) (v.2.1 16 f))) ∧ ∀ c, c < 120 → L c → sm_W L u v (121 + c) (130 + c)
theorem sm_M.N {L : Nat → Prop} {u v : tm_SC} {F : Nat} (h : sm_M L u v F) : sm_N L v F :=
  ⟨h.2.1, h.2.2.1.imp (fun q => ⟨q.1, q.2.N⟩) (fun q => ⟨q.1, q.2.2.N⟩), fun f hf => (h.2.2.2.1 f hf).imp (fun q => ⟨q.1, q.2.N⟩) (fun q => ⟨q.1, q.2.2.N⟩), fun c hc hL => (h.2.2.2.2 c hc hL).N⟩
theorem sm_M.r0 {L : Nat → Prop} {u v : tm_SC} {F : Nat} (h : sm_M L u v F) : ∀ i, i ≤ F → cs_row u L i
  | 0, _ => h.2.2.1.elim (fun q => q.2.row) (fun q => q.2.row)
  | f + 1, hf => by
    rw [Nat.add_comm f 1]
    exact (h.2.2.2.1 f (by omega)).elim (fun q => q.2.row) (fun q => q.2.row)
theorem sm_M.MI {L M : Nat → Prop} {u v : tm_SC} {F : Nat} (h : sm_M L u v F) (hF : F ≤ 120) (hm : cs_LL u M) : cs_MI u F L M := ⟨h.1, hF, hm, h.r0, fun c hc hL => (h.2.2.2.2 c hc hL).row⟩
theorem sm_vN.of {L : Nat → Prop} {a b : Int32} (h : sm_vN L a b) (hb : ¬ b = 0) : ∃ c, c < 120 ∧ L c ∧ a = nI c := h.elim (fun q => absurd q hb) (fun q => q.2)
theorem sm_N.MI {L : Nat → Prop} {v : tm_SC} {F : Nat} (h : sm_N L v F) (hF : F ≤ 121) : ms_MI v F L := by
  refine ⟨h.1, hF, fun q => ?_, fun q q2 => ?_, fun f hf => ⟨fun q q2 => ?_, fun q => ?_⟩, fun c hc hL => (h.2.2.2 c hc hL).row⟩
  · rcases h.2.1 with z | z
    · exact z.2.row
    · rw [z.1] at q; exact absurd q (by decide)
  · rcases h.2.1 with z | z
    · exact absurd z.1 q
    · exact z.2.of q2
  · rcases h.2.2.1 f hf with z | z
    · exact absurd q z.1
    · exact z.2.of q2
  · rcases h.2.2.1 f hf with z | z
    · exact z.2.row
    · exact absurd z.1 q
def sm_mk (v : tm_SC) (j : Nat) : Nat := (v.2.1 6 j).toNatClampNeg
def sm_s (v : tm_SC) : Nat → Nat
  | 0 => if v.1 7 = 0 then sm_pc (sm_mk v 0) else 1
  | f + 1 => sm_s v f + if ms_hv (v.2.1 12 f) then 1 else sm_pc (sm_mk v (1 + f))
def sm_wM (p : tm_SC × Nat) : wl_T := (p.1.2.1 10, p.1.2.1 11, p.2)
theorem sm_noteM (v : tm_SC) (c n : Nat) : sm_wM (ms_noteU v c n, ms_noteN v c n) = wl_note (sm_wM (v, n)) c := by
  by_cases q : v.2.1 10 c = 0
  · rw [show ms_noteU v c n = _ from if_pos q, show ms_noteN v c n = _ from if_pos q, show wl_note (sm_wM (v, n)) c = _ from if_pos q]; rfl
  · rw [show ms_noteU v c n = _ from if_neg q, show ms_noteN v c n = _ from if_neg q, show wl_note (sm_wM (v, n)) c = _ from if_neg q]
theorem sm_naM (v : tm_SC) (i n : Nat) : ∀ k, sm_wM (ms_na v i n k) = wl_row (sm_hM v i) (sm_wM (v, n)) k
  | 0 => rfl
  | k + 1 => by
    have ih := sm_naM v i n k
    show _ = wl_opt (wl_row (sm_hM v i) (sm_wM (v, n)) k) (sm_hM v i k)
    by_cases q : ms_bt (v.2.1 6 i) (nI k) = 1 ∧ ¬ v.2.1 8 (8 * i + k) = 0
    · rw [ms_na_s q.1 q.2, show sm_hM v i k = some _ from if_pos q, ← ih]
      exact sm_noteM _ _ _
    · rw [show ms_na v i n (k + 1) = ms_na v i n k from if_neg q, show sm_hM v i k = none from if_neg q, ← ih]; rfl
def sm_cz (v : tm_SC) : Prop := v.1 6 = nI (tm_cnt (v.2.1 10) 120) ∧ ∀ c, 120 ≤ c → c < 130 → v.2.1 10 c = 0
theorem sm_cz.note {v : tm_SC} (h : sm_cz v) {c : Nat} (hc : c < 120) (n : Nat) : sm_cz (ms_noteU v c n) := by
  by_cases q : v.2.1 10 c = 0
  · have e : ms_noteU v c n = tm_sa (tm_sf (tm_sa v 10 c 1) 6 (v.1 6 + 1)) 11 n (nI c) := if_pos q
    have e10 : (ms_noteU v c n).2.1 10 = upd (v.2.1 10) c 1 := by rw [e]; rfl
    refine ⟨?_, fun d h1 h2 => ?_⟩
    · rw [e10, tm_cnt_up q 120 hc, ← nI_1, ← h.1, e]; rfl
    · rw [e10, pk_un (by omega)]; exact h.2 d h1 h2
  · rw [show ms_noteU v c n = v from if_neg q]; exact h
theorem sm_cz.na {v : tm_SC} {L : Nat → Prop} {i : Nat} (h : sm_cz v) (hr : ms_row v L i) (n : Nat) : ∀ k, k ≤ 8 → sm_cz (ms_na v i n k).1
  | 0, _ => h
  | k + 1, hk => by
    have ih := h.na hr n k (by omega)
    by_cases q : ms_bt (v.2.1 6 i) (nI k) = 1 ∧ ¬ v.2.1 8 (8 * i + k) = 0
    · rw [ms_na_s q.1 q.2]
      obtain ⟨c, hc, -, e⟩ := hr k (by omega) q.1 q.2
      rw [e, nI_clamp (by omega)]
      exact ih.note hc _
    · rw [show ms_na v i n (k + 1) = ms_na v i n k from if_neg q]; exact ih
theorem sm_wN.eq {L : Nat → Prop} {u v : tm_SC} {j : Nat} (a : ms_eq u v) (h : sm_wN L u j) : sm_wN L v j := by
  unfold sm_wN
  rw [a.1 6 (by decide) (by decide), a.1 7 (by decide) (by decide), a.1 8 (by decide) (by decide)]; exact h
theorem sm_hM_eq {u v : tm_SC} (a : ms_eq u v) (j : Nat) : sm_hM v j = sm_hM u j := by
  funext k
  unfold sm_hM
  rw [a.1 6 (by decide) (by decide), a.1 7 (by decide) (by decide), a.1 8 (by decide) (by decide)]
theorem sm_wN.pc {L : Nat → Prop} {v : tm_SC} {j : Nat} (h : sm_wN L v j) : ms_ones (v.2.1 6 j) 8 = nI (sm_pc (sm_mk v j)) ∧ sm_pc (sm_mk v j) ≤ 8 := by
  obtain ⟨m, h1, h2, -⟩ := h
  unfold sm_mk
  rw [h2, sm_clam h1]
  exact ⟨sm_pcM m h1, sm_pc8 m h1⟩
/-- what the state and the frames hold -/
def sm_H (v : tm_SC) : Nat → Nat → Prop
  | 0, c => (v.1 7 = 0 ∧ ∃ k, k < 8 ∧ sm_hM v 0 k = some c) ∨ (¬ v.1 7 = 0 ∧ ¬ v.1 10 = 0 ∧ (v.1 9).toNatClampNeg = c)
  | f + 1, c => sm_H v f c ∨ (¬ ms_hv (v.2.1 12 f) ∧ ∃ k, k < 8 ∧ sm_hM v (1 + f) k = some c) ∨ (ms_hv (v.2.1 12 f) ∧ ¬ v.2.1 16 f = 0 ∧ (v.2.1 15 f).toNatClampNeg = c)
theorem sm_rootM {L : Nat → Prop} {v : tm_SC} {F : Nat} (h : sm_N L v F) : ∀ f, f ≤ F → (ms_mf v f).1.1 5 = nI (f + sm_s v f) ∧ sm_cz (ms_mf v f).1 ∧ sm_s v f ≤ 8 * (f + 1) ∧ ∃ H : Nat → Prop, (∀ c, H c → (c < 120 ∧ L c) ∧ 1 ≤ sm_s v f) ∧ wl_X H (sm_wM (ms_m0 v, 0)) (sm_wM (ms_mf v f)) ∧ ∀ c, sm_H v f c → H c
  | 0, _ => by
    have hz : sm_cz (ms_m0 v) := ⟨(congrArg nI (tm_cnt_0 (f := (ms_m0 v).2.1 10) 120 (fun c hc => ms_clr_0 v 130 c (by omega)))).symm, fun c _ h2 => ms_clr_0 v 130 c h2⟩
    have e5 : (ms_m0 v).1 5 = if v.1 7 = 0 then ms_ones (v.2.1 6 0) 8 else 1 := rfl
    show (ms_m1 v).1.1 5 = nI (0 + sm_s v 0) ∧ sm_cz (ms_m1 v).1 ∧ _ ∧ ∃ H : Nat → Prop, _ ∧ wl_X H _ (sm_wM (ms_m1 v)) ∧ _
    rw [Nat.zero_add]
    rcases h.2.1 with ⟨q, hr⟩ | ⟨q, hv⟩
    · have hr0 := hr.eq (ms_eq.m0 v)
      have es : sm_s v 0 = sm_pc (sm_mk v 0) := if_pos q
      rw [ms_m1_a q, es]
      refine ⟨?_, hz.na hr0.row 0 8 (Nat.le_refl _), hr.pc.2, _, fun c hc => ?_, by rw [sm_naM]; exact wl_X.row _ (fun k c hk e => (hr0.hit hk e).1.1) 8 (Nat.le_refl _), fun c hc => ?_⟩
      · rw [ms_na_f (ms_m0 v) 0 0 (by decide) 8, e5, if_pos q]; exact hr.pc.1
      · obtain ⟨k, hk, e⟩ := hc
        rw [sm_hM_eq (ms_eq.m0 v)] at e
        exact hr.hit hk e
      · rw [sm_hM_eq (ms_eq.m0 v)]
        exact hc.elim (fun z => z.2) (fun z => absurd q z.1)
    · have q0 : ¬ v.1 7 = 0 := by rw [q]; decide
      have es : sm_s v 0 = 1 := if_neg q0
      have e51 : (ms_m0 v).1 5 = 1 := e5.trans (if_neg q0)
      rw [es]
      by_cases b : v.1 10 = 0
      · rw [ms_m1_b q0 b]
        exact ⟨e51, hz, by decide, _, fun c hc => hc.elim, wl_X.rf _, fun c hc => hc.elim (fun z => q0 z.1) (fun z => z.2.1 b)⟩
      · obtain ⟨c, hc, hL, e⟩ := hv.of b
        rw [ms_m1_c q0 b, e, nI_clamp (by omega)]
        exact ⟨(ms_noteU_f _ _ _ (by decide)).trans e51, hz.note hc 0, by decide, fun d => d = c, fun d hd => ⟨by rw [hd]; exact ⟨hc, hL⟩, Nat.le_refl _⟩, by rw [sm_noteM]; exact wl_X.nt _ hc, fun d hd => hd.elim (fun z => absurd z.1 q0) (fun z => by rw [← z.2.2, e, nI_clamp (by omega)])⟩
  | f + 1, hf => by
    obtain ⟨i1, i2, i8, H, i3, i4, i5⟩ := sm_rootM h f (by omega)
    have he := ms_eq.mf v f
    have e12 := congrFun (he.1 12 (by decide) (by decide)) f
    have e15 := congrFun (he.1 15 (by decide) (by decide)) f
    have e16 := congrFun (he.1 16 (by decide) (by decide)) f
    have e6 := congrFun (he.1 6 (by decide) (by decide)) (1 + f)
    have hfs : (ms_fs (ms_mf v f).1 f).1 5 = (ms_mf v f).1.1 5 + (if ms_hv (v.2.1 12 f) then 2 else 1 + ms_ones (v.2.1 6 (1 + f)) 8) := by
      show (ms_mf v f).1.1 5 + (if ms_hv ((ms_mf v f).1.2.1 12 f) then 2 else 1 + ms_ones ((ms_mf v f).1.2.1 6 (1 + f)) 8) = _
      rw [e12, e6]
    have hef : ms_eq v (ms_fs (ms_mf v f).1 f) := he.tr (ms_eq.sp _ _)
    have hz : sm_cz (ms_fs (ms_mf v f).1 f) := i2
    rcases h.2.2.1 f (by omega) with ⟨q, hr⟩ | ⟨q, hv⟩
    · have q2 : ¬ ms_hv ((ms_mf v f).1.2.1 12 f) := by rw [e12]; exact q
      have em : ms_mf v (f + 1) = ms_na (ms_fs (ms_mf v f).1 f) (1 + f) (ms_mf v f).2 8 := if_neg q2
      have es : sm_s v (f + 1) = sm_s v f + sm_pc (sm_mk v (1 + f)) := congrArg (sm_s v f + ·) (if_neg q)
      have hr1 := hr.eq hef
      rw [em, es]
      refine ⟨?_, hz.na hr1.row _ 8 (Nat.le_refl _), by have := hr.pc.2; omega, fun c => H c ∨ ∃ i, i < 8 ∧ sm_hM (ms_fs (ms_mf v f).1 f) (1 + f) i = some c, fun c hc => ?_, ?_, fun c hc => ?_⟩
      · rw [ms_na_f _ _ _ (by decide) 8, hfs, if_neg q, i1, hr.pc.1, show (1 : Int32) = nI 1 from rfl, nI_add, nI_add]
        exact congrArg nI (by omega)
      · rcases hc with z | ⟨k, hk, e⟩
        · have := i3 c z
          exact ⟨this.1, by omega⟩
        · rw [sm_hM_eq hef] at e
          have := hr.hit hk e
          exact ⟨this.1, Nat.le_trans this.2 (Nat.le_add_left _ _)⟩
      · rw [sm_naM]
        exact wl_X.tr (w1 := sm_wM (ms_fs (ms_mf v f).1 f, (ms_mf v f).2)) i4 (wl_X.row _ (fun k c hk e => (hr1.hit hk e).1.1) 8 (Nat.le_refl _))
      · rw [sm_hM_eq hef]
        exact hc.imp (i5 c) (fun z => z.elim (fun y => y.2) (fun y => absurd y.1 q))
    · have q2 : ms_hv ((ms_mf v f).1.2.1 12 f) := by rw [e12]; exact q
      have es : sm_s v (f + 1) = sm_s v f + 1 := congrArg (sm_s v f + ·) (if_pos q)
      have h5 : (ms_fs (ms_mf v f).1 f).1 5 = nI (f + 1 + (sm_s v f + 1)) := by
        rw [hfs, if_pos q, i1, show (2 : Int32) = nI 2 from rfl, nI_add]
        exact congrArg nI (by omega)
      rw [es]
      by_cases b : v.2.1 16 f = 0
      · have em : ms_mf v (f + 1) = (ms_fs (ms_mf v f).1 f, (ms_mf v f).2) := (if_pos q2).trans (if_pos (e16.trans b))
        rw [em]
        exact ⟨h5, hz, by omega, H, fun c hc => ⟨(i3 c hc).1, by omega⟩, i4, fun c hc => hc.elim (i5 c) (fun z => z.elim (fun y => absurd q y.1) (fun y => absurd b y.2.1))⟩
      · have em : ms_mf v (f + 1) = _ := (if_pos q2).trans (if_neg (by rw [e16]; exact b))
        obtain ⟨c, hc, hL, e⟩ := hv.of b
        rw [em, e15, e, nI_clamp (by omega)]
        refine ⟨(ms_noteU_f _ _ _ (by decide)).trans h5, hz.note hc _, by omega, fun d => H d ∨ d = c, fun d hd => ?_, ?_, fun d hd => hd.imp (i5 d) (fun z => z.elim (fun y => absurd q y.1) (fun y => by rw [← y.2.2, e, nI_clamp (by omega)]))⟩
        · rcases hd with z | z
          · exact ⟨(i3 d z).1, by omega⟩
          · rw [z]; exact ⟨⟨hc, hL⟩, by omega⟩
        · rw [sm_noteM]
          exact wl_X.tr (w1 := sm_wM (ms_fs (ms_mf v f).1 f, (ms_mf v f).2)) i4 (wl_X.nt _ hc)
def sm_R (v : tm_SC) (F : Nat) (c : Nat) : Prop := c < 120 ∧ ¬ (ms_mf v F).1.2.1 10 c = 0
def sm_E (L : Nat → Prop) (v : tm_SC) (a b : Nat) : Prop := (a < 120 ∧ L a) ∧ ∃ k, k < 8 ∧ sm_hM v (130 + a) k = some b
def sm_wt (v : tm_SC) (c : Nat) : Nat := 1 + sm_pc (sm_mk v (130 + c))
theorem sm_N.E {L : Nat → Prop} {v : tm_SC} {F : Nat} (h : sm_N L v F) {a b : Nat} (e : sm_E L v a b) : b < 120 ∧ L b := by
  obtain ⟨⟨h1, h2⟩, k, hk, e2⟩ := e
  exact ((h.2.2.2 a h1 h2).hit hk e2).1
theorem sm_init {L : Nat → Prop} {v : tm_SC} {F : Nat} (h : sm_N L v F) : wl_I L (sm_R v F) (sm_E L v) (sm_wM (ms_mf v F)) 0 (fun _ => 0) := by
  obtain ⟨-, -, -, H, i3, ⟨x1, x2, x3, x4, x5, x6⟩, -⟩ := sm_rootM h F (Nat.le_refl _)
  have hz : ∀ c, c < 120 → (sm_wM (ms_m0 v, 0)).1 c = 0 := fun c hc => ms_clr_0 v 130 c (by omega)
  refine ⟨fun c hc k => ⟨?_, rc_root ⟨hc, k⟩⟩, fun c hc k => k.2, fun j _ k => ?_, fun i j _ k1 k2 => x5 i j (Nat.zero_le _) k1 k2, fun c hc k => Or.inr ?_, fun a _ k => absurd rfl k⟩
  · rcases (x3 c).mp k with z | z
    · exact absurd (hz c hc) z
    · exact (i3 c z).1.2
  · obtain ⟨c, a1, a2, -, a4⟩ := x4 j (Nat.zero_le _) k
    exact ⟨c, a1, a2, a4, rfl⟩
  · obtain ⟨j, a1, a2, a3⟩ := x6 c hc (hz c hc) k
    exact ⟨j, Nat.zero_le _, a2, a3⟩
theorem sm_loopM {L : Nat → Prop} {v : tm_SC} {F K : Nat} (h : sm_N L v F) (hK : ∀ k, k < K → 0 < (ms_it (ms_mf v F) k).2) : ∀ k, k ≤ K → ∃ p, wl_I L (sm_R v F) (sm_E L v) (sm_wM (ms_it (ms_mf v F) k)) 0 p ∧
    (ms_it (ms_mf v F) k).1.1 5 = nI (F + sm_s v F + tm_tot p (sm_wt v) 120) ∧ sm_cz (ms_it (ms_mf v F) k).1 ∧ ms_eq v (ms_it (ms_mf v F) k).1
  | 0, _ => by
    obtain ⟨i1, i2, -, -⟩ := sm_rootM h F (Nat.le_refl _)
    exact ⟨fun _ => 0, sm_init h, by rw [tm_tot_0 120 (fun _ _ => rfl), Nat.add_zero]; exact i1, i2, ms_eq.mf v F⟩
  | k + 1, hk => by
    obtain ⟨p, i1, i2, i3, i4⟩ := sm_loopM h hK k (by omega)
    have hn := hK k (by omega)
    show ∃ p, wl_I L (sm_R v F) (sm_E L v) (sm_wM (ms_one (ms_it (ms_mf v F) k))) 0 p ∧ (ms_one (ms_it (ms_mf v F) k)).1.1 5 = _ ∧ sm_cz (ms_one (ms_it (ms_mf v F) k)).1 ∧ ms_eq v (ms_one (ms_it (ms_mf v F) k)).1
    generalize ms_it (ms_mf v F) k = s at i1 i2 i3 i4 hn
    obtain ⟨c, hc, ec, hcn, -⟩ := i1.2.2.1 (s.2 - 1) (Nat.zero_le _) (show s.2 - 1 < s.2 by omega)
    have ec : s.1.2.1 11 (s.2 - 1) = nI c := ec
    have hLc := (i1.1 c hc hcn).1
    have hef : ms_eq v (ms_cs s.1 c) := i4.tr (ms_eq.sp _ _)
    have hr := h.2.2.2 c hc hLc
    have hr1 := hr.eq hef
    unfold ms_one
    rw [ec, nI_clamp (by omega)]
    have hx : wl_X (fun b => ∃ i, i < 8 ∧ sm_hM (ms_cs s.1 c) (130 + c) i = some b) (s.1.2.1 10, s.1.2.1 11, s.2 - 1) (sm_wM (ms_na (ms_cs s.1 c) (130 + c) (s.2 - 1) 8)) := by
      rw [sm_naM]
      exact wl_X.row _ (fun k c hk e => (hr1.hit hk e).1.1) 8 (Nat.le_refl _)
    obtain ⟨j1, j2⟩ := i1.step (w1 := (s.1.2.1 10, s.1.2.1 11, s.2 - 1)) (lo' := 0) (j0 := s.2 - 1) (c := c) rfl rfl
      (fun j => by
        show (0 ≤ j ∧ j < s.2) ↔ ((0 ≤ j ∧ j < s.2 - 1) ∨ j = s.2 - 1)
        omega) (by show ¬ (0 ≤ s.2 - 1 ∧ s.2 - 1 < s.2 - 1); omega) (Nat.zero_le _) hc ec hx
      (fun b => by
        rw [sm_hM_eq hef]
        exact ⟨fun q => ⟨⟨hc, hLc⟩, q⟩, fun q => q.2⟩) (fun b e => h.E e)
    refine ⟨upd p c 1, j1, ?_, i3.na (v := ms_cs s.1 c) hr1.row _ 8 (Nat.le_refl _), hef.tr (ms_eq.na _ _ _ _)⟩
    rw [ms_na_f _ _ _ (by decide) 8, tm_tot_up j2 120 hc]
    show s.1.1 5 + (1 + ms_ones (s.1.2.1 6 (130 + c)) 8) = _
    rw [i2, i4.1 6 (by decide) (by decide), hr.pc.1, show (1 : Int32) = nI 1 from rfl, nI_add, nI_add]
    exact congrArg nI (by unfold sm_wt; omega)
theorem sm_tot_le {p : Nat → Int32} {w : Nat → Nat} {B : Nat} : ∀ N, (∀ c, c < N → w c ≤ B) → tm_tot p w N ≤ B * N
  | 0, _ => Nat.zero_le _
  | k + 1, h => by
    have a := sm_tot_le (p := p) k (fun c hc => h c (by omega))
    show tm_tot p w k + (if p k = 0 then 0 else w k) ≤ B * (k + 1)
    have b := h k (by omega)
    rw [Nat.mul_succ]
    split <;> omega
theorem sm_tot_ge {p : Nat → Int32} {w : Nat → Nat} : ∀ N, (∀ c, c < N → 1 ≤ w c) → tm_cnt p N ≤ tm_tot p w N
  | 0, _ => Nat.le_refl _
  | k + 1, h => by
    have a := sm_tot_ge (p := p) k (fun c hc => h c (by omega))
    show tm_cnt p k + (if p k = 0 then 0 else 1) ≤ tm_tot p w k + (if p k = 0 then 0 else w k)
    have b := h k (by omega)
    split <;> omega
/-- what measure finds -/
def sm_F9 (L : Nat → Prop) (v : tm_SC) (F : Nat) (S : Nat → Int32) (x : Int32) : Prop :=
  ∃ p, x = nI (F + sm_s v F + tm_tot p (sm_wt v) 120) ∧ ∀ c, c < 120 → (¬ S c = 0 ↔ rc_R (sm_R v F) (sm_E L v) c) ∧ (S c = 0 ↔ p c = 0)
theorem sm_measM {L L2 : Nat → Prop} {v m : tm_SC} {F : Nat} (h : sm_N L v F) (hm : ms_MP v F L2 m) : sm_F9 L v F (m.2.1 10) (m.1 5) ∧ sm_cz m ∧ ms_eq v m ∧ ∀ c, c < 120 → ¬ m.2.1 10 c = 0 → L c := by
  obtain ⟨K, h1, h2, rfl, h4⟩ := hm
  obtain ⟨p, i1, i2, i3, i4⟩ := sm_loopM h h1 K (Nat.le_refl _)
  have hf := i1.fin (Nat.le_of_eq h2) (fun c q => q.1) (fun a b e => (h.E e).1)
  exact ⟨⟨p, i2, hf⟩, i3, i4, fun c hc q => (i1.1 c hc q).1⟩
-- the class
def sm_wC (u : tm_SC) : wl_T := (u.2.1 10, u.2.1 11, tm_cnt (u.2.1 10) 120)
theorem sm_noteC {u : tm_SC} {L : Nat → Prop} (h : cs_LL u L) {c : Nat} (hc : c < 120) : sm_wC (cs_note u c) = wl_note (sm_wC u) c := by
  by_cases q : u.2.1 10 c = 0
  · have e : cs_note u c = tm_sf (tm_sa (tm_sa u 10 c 1) 11 (u.1 10).toNatClampNeg (nI c)) 10 (u.1 10 + 1) := if_pos q
    have en : (u.1 10).toNatClampNeg = tm_cnt (u.2.1 10) 120 := by
      rw [h.1]; exact nI_clamp (by have := tm_cnt_le (u.2.1 10) 120; omega)
    have e10 : (cs_note u c).2.1 10 = upd (u.2.1 10) c 1 := by rw [e]; rfl
    have e11 : (cs_note u c).2.1 11 = upd (u.2.1 11) (tm_cnt (u.2.1 10) 120) (nI c) := by rw [e, ← en]; rfl
    rw [show wl_note (sm_wC u) c = _ from if_pos q]
    show ((cs_note u c).2.1 10, (cs_note u c).2.1 11, tm_cnt ((cs_note u c).2.1 10) 120) = _
    rw [e10, e11, tm_cnt_up q 120 hc]; rfl
  · rw [show cs_note u c = u from if_neg q, show wl_note (sm_wC u) c = _ from if_neg q]
theorem sm_lookC {u : tm_SC} {L : Nat → Prop} {i : Nat} (h : cs_LL u L) (hr : cs_row u L i) : ∀ k, k ≤ 8 → sm_wC (cs_look u i k) = wl_row (sm_hC u i) (sm_wC u) k
  | 0, _ => rfl
  | k + 1, hk => by
    have ih := sm_lookC h hr k (by omega)
    show _ = wl_opt (wl_row (sm_hC u i) (sm_wC u) k) (sm_hC u i k)
    by_cases q : ¬ cs_bt (u.2.1 8 i) (nI k) = 0 ∧ ¬ u.2.2 (i * 8 + k) < 4294967296
    · obtain ⟨c, hc, hL, e⟩ := hr.2 k (by omega) q.1 q.2
      rw [cs_look_s q.1 q.2, show sm_hC u i k = some _ from if_pos q, ← ih, e, cs_sl_n hc]
      exact sm_noteC (h.look hr k (by omega)) hc
    · rw [show cs_look u i (k + 1) = cs_look u i k from if_neg q, show sm_hC u i k = none from if_neg q, ← ih]; rfl
theorem sm_hC_eq {u w : tm_SC} (e8 : w.2.1 8 = u.2.1 8) (ev : w.2.2 = u.2.2) (i : Nat) : sm_hC w i = sm_hC u i := by
  funext k
  unfold sm_hC
  rw [e8, ev]
theorem sm_1.hit {L : Nat → Prop} {u : tm_SC} {i : Nat} {a b : Int32} (h : sm_1 L u i a b) : sm_hC u i 0 = (if b = 0 then none else some a.toNatClampNeg) ∧ ∀ k, 1 ≤ k → k < 8 → sm_hC u i k = none := by
  constructor
  · unfold sm_hC
    rw [h.1]
    rcases h.2 with ⟨e1, e2⟩ | ⟨e1, c, hc, -, e2, e3⟩
    · rw [if_neg (fun q => q.2 (e2 ▸ sm_int _)), if_pos e1]
    · rw [if_pos ⟨by decide, by rw [e3]; exact sm_clo hc⟩, if_neg (by rw [e1]; decide), e3, e2, cs_sl_n hc, nI_clamp (by omega)]
  · intro k h1 h2
    unfold sm_hC
    rw [h.1, if_neg (fun q => by have := sm_1b k h2 q.1; omega)]
theorem wl_row_1 {h : Nat → Option Nat} (w : wl_T) (hh : ∀ k, 1 ≤ k → k < 8 → h k = none) : ∀ k, 1 ≤ k → k ≤ 8 → wl_row h w k = wl_opt w (h 0)
  | 0, h1, _ => absurd h1 (by decide)
  | 1, _, _ => rfl
  | k + 2, _, h2 => by
    show wl_opt (wl_row h w (k + 1)) (h (k + 1)) = _
    rw [hh (k + 1) (by omega) (by omega)]
    exact wl_row_1 w hh (k + 1) (by omega) (by omega)
theorem sm_W.bc {L : Nat → Prop} {u v : tm_SC} {i j : Nat} (h : sm_W L u v i j) : cs_bc (u.2.1 8 i) = nI (sm_pc (sm_mk v j)) := by
  obtain ⟨m, h1, h2, h3, -⟩ := h
  unfold sm_mk
  rw [h2, h3, sm_clam h1]
  exact sm_pcC m h1
theorem sm_bc1 : cs_bc 1 = nI 1 := by decide +kernel
theorem sm_rootC {L M : Nat → Prop} {u v : tm_SC} {F : Nat} (h : sm_M L u v F) (hM : cs_LL u M) : ∀ f, f ≤ F → wl_Q (sm_wC (cs_mf u f)) (sm_wM (ms_mf v f)) ∧ (cs_mf u f).1 4 = nI (F + sm_s v f)
  | 0, _ => by
    have hr := h.r0 0 (Nat.zero_le _)
    have e8 : (cs_fg u).2.1 8 = u.2.1 8 := cs_fgt_a u (by decide) _
    have ev : (cs_fg u).2.2 = u.2.2 := cs_fgt_v u _
    have e0 : (cs_fg u).1 0 = nI F := by
      show upd (cs_fgt u (tm_cnt (u.2.1 10) 120)).1 10 0 0 = nI F
      rw [pk_un (by decide), cs_fgt_f]; exact h.1
    have hq : wl_Q (sm_wC (cs_fg u)) (sm_wM (ms_m0 v, 0)) := by
      have hc : tm_cnt ((cs_fg u).2.1 10) 120 = 0 := tm_cnt_0 120 (fun c hc => cs_fg_0 hM hc)
      refine ⟨hc, fun c hc => (cs_fg_0 hM hc).trans (ms_clr_0 v 130 c (by omega)).symm, fun j hj => ?_⟩
      have hj : j < tm_cnt ((cs_fg u).2.1 10) 120 := hj
      rw [hc] at hj
      exact absurd hj (Nat.not_lt_zero _)
    have e4 : (cs_mf u 0).1 4 = nI F + cs_bc (u.2.1 8 0) := by
      show (cs_fg u).1 0 + cs_bc ((cs_fg u).2.1 8 0) = _
      rw [e0, e8]
    have ew : sm_wC (cs_mf u 0) = wl_row (sm_hC u 0) (sm_wC (cs_fg u)) 8 := by
      rw [← sm_hC_eq e8 ev]
      exact sm_lookC (hM.fg L) hr.fg 8 (Nat.le_refl _)
    rw [ew, e4]
    show wl_Q _ (sm_wM (ms_m1 v)) ∧ _
    rcases h.2.2.1 with ⟨q, hw⟩ | ⟨q, h1⟩
    · rw [ms_m1_a q, sm_naM, sm_hM_eq (ms_eq.m0 v), hw.bc, show sm_s v 0 = _ from if_pos q]
      exact ⟨hq.row (fun k hk => hw.hit hk) (fun k c hk e => (hw.N.hit hk e).1.1) 8 (Nat.le_refl _), nI_add _ _⟩
    · have q0 : ¬ v.1 7 = 0 := by rw [q]; decide
      rw [wl_row_1 _ h1.hit.2 8 (by decide) (Nat.le_refl _), h1.hit.1, h1.1, sm_bc1, show sm_s v 0 = _ from if_neg q0]
      refine ⟨?_, nI_add _ _⟩
      by_cases b : v.1 10 = 0
      · rw [if_pos b, ms_m1_b q0 b]; exact hq
      · rw [if_neg b, ms_m1_c q0 b, sm_noteM]
        obtain ⟨c, hc, -, e⟩ := h1.2.N.of b
        rw [e, nI_clamp (by omega)]
        exact hq.note hc
  | f + 1, hf => by
    obtain ⟨i1, i2⟩ := sm_rootC h hM f (by omega)
    have hL := cs_mf_L hM h.r0 f (by omega)
    have e8 := cs_mf_a u (j := 8) (by decide) (by decide) f
    have ev := cs_mf_v u f
    have hr := (h.r0 (1 + f) (by omega)).same e8 ev
    have e4 : (cs_mf u (f + 1)).1 4 = nI (F + sm_s v f) + cs_bc (u.2.1 8 (1 + f)) := by
      show (cs_mf u f).1 4 + cs_bc ((cs_mf u f).2.1 8 (1 + f)) = _
      rw [i2, e8]
    have ew : sm_wC (cs_mf u (f + 1)) = wl_row (sm_hC u (1 + f)) (sm_wC (cs_mf u f)) 8 := by
      rw [← sm_hC_eq e8 ev]
      exact sm_lookC hL hr 8 (Nat.le_refl _)
    have he := ms_eq.mf v f
    have e12 := congrFun (he.1 12 (by decide) (by decide)) f
    have e15 := congrFun (he.1 15 (by decide) (by decide)) f
    have e16 := congrFun (he.1 16 (by decide) (by decide)) f
    have hef : ms_eq v (ms_fs (ms_mf v f).1 f) := he.tr (ms_eq.sp _ _)
    have i1' : wl_Q (sm_wC (cs_mf u f)) (sm_wM (ms_fs (ms_mf v f).1 f, (ms_mf v f).2)) := i1
    rw [ew, e4]
    rcases h.2.2.2.1 f (by omega) with ⟨q, hw⟩ | ⟨q, h1⟩
    · have q2 : ¬ ms_hv ((ms_mf v f).1.2.1 12 f) := by rw [e12]; exact q
      have em : ms_mf v (f + 1) = ms_na (ms_fs (ms_mf v f).1 f) (1 + f) (ms_mf v f).2 8 := if_neg q2
      have es : sm_s v (f + 1) = sm_s v f + sm_pc (sm_mk v (1 + f)) := congrArg (sm_s v f + ·) (if_neg q)
      rw [em, sm_naM, sm_hM_eq hef, hw.bc, es, nI_add]
      exact ⟨i1'.row (fun k hk => hw.hit hk) (fun k c hk e => (hw.N.hit hk e).1.1) 8 (Nat.le_refl _), congrArg nI (by omega)⟩
    · have q2 : ms_hv ((ms_mf v f).1.2.1 12 f) := by rw [e12]; exact q
      have es : sm_s v (f + 1) = sm_s v f + 1 := congrArg (sm_s v f + ·) (if_pos q)
      rw [wl_row_1 _ h1.hit.2 8 (by decide) (Nat.le_refl _), h1.hit.1, h1.1, sm_bc1, es, nI_add]
      refine ⟨?_, congrArg nI (by omega)⟩
      by_cases b : v.2.1 16 f = 0
      · have em : ms_mf v (f + 1) = (ms_fs (ms_mf v f).1 f, (ms_mf v f).2) := (if_pos q2).trans (if_pos (e16.trans b))
        rw [if_pos b, em]; exact i1'
      · have em : ms_mf v (f + 1) = _ := (if_pos q2).trans (if_neg (by rw [e16]; exact b))
        rw [if_neg b, em, sm_noteM, e15]
        obtain ⟨c, hc, -, e⟩ := h1.2.N.of b
        rw [e, nI_clamp (by omega)]
        exact i1'.note hc
theorem sm_Qs {w w' : wl_T} (h : wl_Q w w') : wl_Q w' w := ⟨h.1.symm, fun c hc => (h.2.1 c hc).symm, fun j hj => (h.2.2 j (by rw [h.1]; exact hj)).symm⟩
theorem sm_loopC {L M : Nat → Prop} {u v : tm_SC} {F n : Nat} (h : sm_M L u v F) (hM : cs_LL u M) (hn : ∀ k, k < n → k < tm_cnt ((cs_mc (cs_mf u F) k).2.1 10) 120) : ∀ k, k ≤ n → ∃ p, wl_I L (sm_R v F) (sm_E L v) (sm_wC (cs_mc (cs_mf u F) k)) k p ∧
    (cs_mc (cs_mf u F) k).1 4 = nI (F + sm_s v F + tm_tot p (sm_wt v) 120) ∧ cs_LL (cs_mc (cs_mf u F) k) L ∧ (∀ j, j ≠ 10 → j ≠ 11 → (cs_mc (cs_mf u F) k).2.1 j = u.2.1 j) ∧ (cs_mc (cs_mf u F) k).2.2 = u.2.2 ∧ ∀ j, j ≠ 10 → j ≠ 4 → (cs_mc (cs_mf u F) k).1 j = u.1 j
  | 0, _ => by
    obtain ⟨i1, i2⟩ := sm_rootC h hM F (Nat.le_refl _)
    exact ⟨fun _ => 0, (sm_init h.N).q (sm_Qs i1), by rw [tm_tot_0 120 (fun _ _ => rfl), Nat.add_zero]; exact i2, cs_mf_L hM h.r0 F (Nat.le_refl _), fun j h1 h2 => cs_mf_a u h1 h2 F, cs_mf_v u F, fun j h1 h2 => cs_mf_f u h1 h2 F⟩
  | k + 1, hk => by
    obtain ⟨p, i1, i2, i3, i4, i5, i6⟩ := sm_loopC h hM hn k (by omega)
    have hkn := hn k (by omega)
    have em : cs_mc (cs_mf u F) (k + 1) = tm_sf (cs_look (cs_mc (cs_mf u F) k) (121 + ((cs_mc (cs_mf u F) k).2.1 11 k).toNatClampNeg) 8) 4 ((cs_mc (cs_mf u F) k).1 4 + (1 + cs_bc ((cs_mc (cs_mf u F) k).2.1 8 (121 + ((cs_mc (cs_mf u F) k).2.1 11 k).toNatClampNeg)))) := rfl
    rw [em]
    generalize cs_mc (cs_mf u F) k = s at i1 i2 i3 i4 i5 i6 hkn
    obtain ⟨c, hc, ec, hcn, -⟩ := i1.2.2.1 k (Nat.le_refl _) hkn
    have ec : s.2.1 11 k = nI c := ec
    have hLc := (i1.1 c hc hcn).1
    have e8 := i4 8 (by decide) (by decide)
    have hw := h.2.2.2.2 c hc hLc
    have hr : cs_row s L (121 + c) := hw.row.same e8 i5
    rw [ec, nI_clamp (by omega)]
    have hx : wl_X (fun b => ∃ i, i < 8 ∧ sm_hC u (121 + c) i = some b) (sm_wC s) (sm_wC (cs_look s (121 + c) 8)) := by
      rw [sm_lookC i3 hr 8 (Nat.le_refl _), sm_hC_eq e8 i5]
      exact wl_X.row _ (fun k d hk e => by rw [hw.hit hk] at e; exact (hw.N.hit hk e).1.1) 8 (Nat.le_refl _)
    obtain ⟨j1, j2⟩ := i1.step (w1 := sm_wC s) (lo' := k + 1) (j0 := k) (c := c) rfl rfl
      (fun j => by
        have : (sm_wC s).2.2 = tm_cnt (s.2.1 10) 120 := rfl
        omega) (by omega) hkn hc ec hx
      (fun b => ⟨fun ⟨i, h1, h2⟩ => ⟨⟨hc, hLc⟩, i, h1, by rw [← hw.hit h1]; exact h2⟩, fun ⟨_, i, h1, h2⟩ => ⟨i, h1, by rw [hw.hit h1]; exact h2⟩⟩) (fun b e => h.N.E e)
    refine ⟨upd p c 1, j1, ?_, (i3.look hr 8 (Nat.le_refl _)).put4 _, fun j h1 h2 => (cs_look_a _ _ h1 h2 8).trans (i4 j h1 h2), (cs_look_v _ _ 8).trans i5, fun j h1 h2 => (pk_un h2).trans ((cs_look_f _ _ h1 8).trans (i6 j h1 h2))⟩
    rw [tm_tot_up j2 120 hc]
    show s.1 4 + (1 + cs_bc (s.2.1 8 (121 + c))) = _
    rw [i2, e8, hw.bc, show (1 : Int32) = nI 1 from rfl, nI_add, nI_add]
    exact congrArg nI (by unfold sm_wt; omega)
/-- the same rows, the class -/
def cs_eq (u v : tm_SC) : Prop := (∀ j, j ≠ 10 → j ≠ 11 → v.2.1 j = u.2.1 j) ∧ v.2.2 = u.2.2 ∧ ∀ j, j ≠ 10 → j ≠ 4 → v.1 j = u.1 j
theorem sm_measC {L L2 M : Nat → Prop} {u v m : tm_SC} {F : Nat} (h : sm_M L u v F) (hM : cs_LL u M) (hm : cs_MP u F L2 m) : sm_F9 L v F (m.2.1 10) (m.1 4) ∧ cs_LL m L ∧ cs_eq u m := by
  obtain ⟨n, h1, rfl, h2, h3, h4⟩ := hm
  obtain ⟨p, i1, i2, i3, i4, i5, i6⟩ := sm_loopC h hM h4 n (Nat.le_refl _)
  have hf := i1.fin (Nat.le_of_eq h2.symm) (fun c q => q.1) (fun a b e => (h.N.E e).1)
  exact ⟨⟨p, i2, hf⟩, i3, i4, i5, i6⟩
