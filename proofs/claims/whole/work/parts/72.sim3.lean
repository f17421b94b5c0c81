/-! both sides side by side: what measure leaves, and that it leaves something -/
theorem sm_W.up {L M : Nat → Prop} {u v : tm_SC} {i j : Nat} (h : sm_W L u v i j) (hm : ∀ k c, k < 8 → sm_hM v j k = some c → M c) : sm_W M u v i j := by
  obtain ⟨m, h1, h2, h3, h4⟩ := h
  refine ⟨m, h1, h2, h3, fun k hk q => ?_⟩
  rcases h4 k hk q with z | ⟨b1, c, hc, hL, e1, e2⟩
  · exact Or.inl z
  · refine Or.inr ⟨b1, c, hc, hm k c hk ?_, e1, e2⟩
    unfold sm_hM
    rw [h3, if_pos ⟨(sm_bM m h1 k hk).mpr q, by rw [b1]; decide⟩, e1, nI_clamp (by omega)]
theorem sm_1.up {L M : Nat → Prop} {u : tm_SC} {i : Nat} {a b : Int32} (h : sm_1 L u i a b) (hm : ¬ b = 0 → M a.toNatClampNeg) : sm_1 M u i a b := by
  refine ⟨h.1, ?_⟩
  rcases h.2 with z | ⟨b1, c, hc, hL, e1, e2⟩
  · exact Or.inl z
  · have := hm (by rw [b1]; decide)
    rw [e1, nI_clamp (by omega)] at this
    exact Or.inr ⟨b1, c, hc, this, e1, e2⟩
theorem sm_W.eq {L : Nat → Prop} {u v m m' : tm_SC} {i j : Nat} (h : sm_W L u v i j) (a : cs_eq u m) (b : ms_eq v m') : sm_W L m m' i j := by
  unfold sm_W
  rw [a.1 8 (by decide) (by decide), a.2.1, b.1 6 (by decide) (by decide), b.1 7 (by decide) (by decide), b.1 8 (by decide) (by decide)]; exact h
theorem sm_1.eq {L : Nat → Prop} {u m : tm_SC} {i : Nat} {x y : Int32} (h : sm_1 L u i x y) (a : cs_eq u m) : sm_1 L m i x y := by
  unfold sm_1
  rw [a.1 8 (by decide) (by decide), a.2.1]; exact h
theorem sm_rt {L : Nat → Prop} {v : tm_SC} {F : Nat} (h : sm_N L v F) {c : Nat} (hc : sm_H v F c) : sm_R v F c := by
  obtain ⟨-, -, -, H, i3, ⟨x1, x2, x3, x4, x5, x6⟩, i5⟩ := sm_rootM h F (Nat.le_refl _)
  exact ⟨(i3 c (i5 c hc)).1.1, (x3 c).mpr (Or.inr (i5 c hc))⟩
theorem sm_Hle {v : tm_SC} {c : Nat} : ∀ F f, f ≤ F → sm_H v f c → sm_H v F c
  | 0, f, h, q => by rw [Nat.le_zero.mp h] at q; exact q
  | F + 1, f, h, q => by
    by_cases e : f = F + 1
    · rw [e] at q; exact q
    · exact Or.inl (sm_Hle F f (by omega) q)
theorem sm_meas {L L1 L2 M : Nat → Prop} {u v m m' : tm_SC} {F : Nat} (h : sm_M L u v F) (hF : F ≤ 120) (hM : cs_LL u M) (hu : cs_MP u F L1 m) (hv : ms_MP v F L2 m') :
    (∃ sp, m.1 4 = nI sp ∧ m'.1 5 = nI sp ∧ F ≤ sp ∧ sp ≤ 3000 ∧ (0 < tm_cnt (m.2.1 10) 120 → tm_cnt (m.2.1 10) 120 + 1 ≤ sp)) ∧ m.1 10 = m'.1 6 ∧ (∀ c, c < 120 → (m.2.1 10 c = 0 ↔ m'.2.1 10 c = 0)) ∧ (∀ c, 120 ≤ c → c < 130 → m'.2.1 10 c = 0) ∧
    cs_LL m L ∧ cs_eq u m ∧ ms_eq v m' ∧ (∀ c, c < 120 → ¬ m.2.1 10 c = 0 → L c) ∧ sm_M (fun c => ¬ m.2.1 10 c = 0) m m' F := by
  obtain ⟨⟨p, a1, a2⟩, a3, a4⟩ := sm_measC h hM hu
  obtain ⟨⟨p', b1, b2⟩, b3, b4, b5⟩ := sm_measM h.N hv
  have hS : ∀ c, c < 120 → (m.2.1 10 c = 0 ↔ m'.2.1 10 c = 0) := fun c hc => Decidable.not_iff_not.mp ((a2 c hc).1.trans (b2 c hc).1.symm)
  have hp : tm_tot p (sm_wt v) 120 = tm_tot p' (sm_wt v) 120 := tm_tot_same 120 (fun c hc => (a2 c hc).2.symm.trans ((hS c hc).trans (b2 c hc).2)) (fun _ _ _ => rfl)
  have hLv : ∀ c, c < 120 → ¬ m.2.1 10 c = 0 → L c := fun c hc q => b5 c hc (fun z => q ((hS c hc).mpr z))
  have hroot : ∀ c, sm_H v F c → ¬ m.2.1 10 c = 0 := fun c q => (a2 c (sm_rt h.N q).1).1.mpr (rc_root (sm_rt h.N q))
  obtain ⟨-, -, hs8, H, i3, ⟨x1, x2, x3, x4, x5, x6⟩, i5⟩ := sm_rootM h.N F (Nat.le_refl _)
  have hcp : tm_cnt (m.2.1 10) 120 = tm_cnt p 120 := tm_cnt_same 120 (fun c hc => (a2 c hc).2)
  refine ⟨⟨F + sm_s v F + tm_tot p (sm_wt v) 120, a1, by rw [hp]; exact b1, by omega, ?_, fun q => ?_⟩, ?_, hS, b3.2, a3, a4, b4, hLv, ?_⟩
  · have : ∀ N, N ≤ 120 → (∀ c, c < N → ¬ p c = 0 → sm_wt v c ≤ 9) → tm_tot p (sm_wt v) N ≤ 9 * N := by
      intro N
      induction N with
      | zero => intro _ _; exact Nat.zero_le _
      | succ k ih =>
        intro hk hw
        have i := ih (by omega) (fun c hc => hw c (by omega))
        show tm_tot p (sm_wt v) k + (if p k = 0 then 0 else sm_wt v k) ≤ 9 * (k + 1)
        by_cases e : p k = 0
        · rw [if_pos e]; omega
        · rw [if_neg e]; have := hw k (by omega) e; omega
    have t := this 120 (Nat.le_refl _) (fun c hc q => by
      have hl := hLv c hc (fun z => q ((a2 c hc).2.mp z))
      have := (h.2.2.2.2 c hc hl).N.pc.2
      unfold sm_wt
      omega)
    omega
  · have hge : tm_cnt p 120 ≤ tm_tot p (sm_wt v) 120 := sm_tot_ge 120 (fun c _ => by unfold sm_wt; omega)
    have hs1 : 1 ≤ sm_s v F := by
      have hex : ∃ c, c < 120 ∧ ¬ m.2.1 10 c = 0 := by
        refine Classical.byContradiction (fun z => ?_)
        have z2 := tm_cnt_0 (f := m.2.1 10) 120 (fun c hc => Classical.byContradiction (fun y => z ⟨c, hc, y⟩))
        omega
      obtain ⟨c, hc, hn⟩ := hex
      have hr := (a2 c hc).1.mp hn
      refine Classical.byContradiction (fun z => ?_)
      have hno : ∀ r, sm_R v F r → False := fun r hr => by
        rcases (x3 r).mp hr.2 with y | y
        · exact y (ms_clr_0 v 130 r (by have := hr.1; omega))
        · exact z (i3 r y).2
      exact hr (fun _ => False) hno (fun _ _ q _ => q)
    rw [hcp]
    omega
  · rw [a3.1, b3.1]
    exact congrArg nI (tm_cnt_same 120 hS)
  · have e7 : m'.1 7 = v.1 7 := b4.2 7 (by decide) (by decide)
    have e9 : m'.1 9 = v.1 9 := b4.2 9 (by decide) (by decide)
    have e10 : m'.1 10 = v.1 10 := b4.2 10 (by decide) (by decide)
    have e12 := b4.1 12 (by decide) (by decide)
    have e15 := b4.1 15 (by decide) (by decide)
    have e16 := b4.1 16 (by decide) (by decide)
    refine ⟨(a4.2.2 0 (by decide) (by decide)).trans h.1, (b4.2 11 (by decide) (by decide)).trans h.2.1, ?_, fun f hf => ?_, fun c hc hn => ?_⟩
    · rw [e7, e9, e10]
      rcases h.2.2.1 with z | z
      · exact Or.inl ⟨z.1, (z.2.up (fun k c hk e => hroot c (sm_Hle F 0 (Nat.zero_le _) (Or.inl ⟨z.1, k, hk, e⟩)))).eq a4 b4⟩
      · exact Or.inr ⟨z.1, (z.2.up (M := fun c => ¬ m.2.1 10 c = 0) (fun q => hroot _ (sm_Hle F 0 (Nat.zero_le _) (Or.inr ⟨by rw [z.1]; decide, q, rfl⟩)))).eq a4⟩
    · rw [e12, e15, e16]
      rcases h.2.2.2.1 f hf with z | z
      · exact Or.inl ⟨z.1, (z.2.up (fun k c hk e => hroot c (sm_Hle F (f + 1) hf (Or.inr (Or.inl ⟨z.1, k, hk, e⟩))))).eq a4 b4⟩
      · exact Or.inr ⟨z.1, (z.2.up (M := fun c => ¬ m.2.1 10 c = 0) (fun q => hroot _ (sm_Hle F (f + 1) hf (Or.inr (Or.inr ⟨z.1, q, rfl⟩))))).eq a4⟩
    · refine ((h.2.2.2.2 c hc (hLv c hc hn)).up (fun k d hk e => ?_)).eq a4 b4
      have he : sm_E L v c d := ⟨⟨hc, hLv c hc hn⟩, k, hk, e⟩
      exact (a2 d (h.N.E he).1).1.mpr (rc_step ((a2 c hc).1.mp hn) he)
/-- the reference alone: its space is no less than its frames -/
theorem sm_spM {L L2 : Nat → Prop} {v m : tm_SC} {F : Nat} (h : sm_N L v F) (hF : F ≤ 121) (hm : ms_MP v F L2 m) : ∃ sp, m.1 5 = nI sp ∧ F ≤ sp ∧ sp ≤ 3000 := by
  obtain ⟨⟨p, b1, b2⟩, b3, b4, b5⟩ := sm_measM h hm
  obtain ⟨-, -, hs8, -⟩ := sm_rootM h F (Nat.le_refl _)
  refine ⟨_, b1, by omega, ?_⟩
  have : ∀ N, N ≤ 120 → (∀ c, c < N → ¬ p c = 0 → sm_wt v c ≤ 9) → tm_tot p (sm_wt v) N ≤ 9 * N := by
    intro N
    induction N with
    | zero => intro _ _; exact Nat.zero_le _
    | succ k ih =>
      intro hk hw
      have i := ih (by omega) (fun c hc => hw c (by omega))
      show tm_tot p (sm_wt v) k + (if p k = 0 then 0 else sm_wt v k) ≤ 9 * (k + 1)
      by_cases e : p k = 0
      · rw [if_pos e]; omega
      · rw [if_neg e]; have := hw k (by omega) e; omega
  have t := this 120 (Nat.le_refl _) (fun c hc q => by
    have hl := b5 c hc (fun z => q ((b2 c hc).2.mp z))
    have := (h.2.2.2 c hc hl).pc.2
    unfold sm_wt
    omega)
  omega
theorem sm_exM {L : Nat → Prop} {v : tm_SC} {F : Nat} (h : ms_MI v F L) (L2 : Nat → Prop) : ∃ m, ms_MP v F L2 m := by
  have key : ∀ N k, (∀ j, j < k → 0 < (ms_it (ms_mf v F) j).2) → ms_OS (ms_it (ms_mf v F) k).1 (ms_it (ms_mf v F) k).2 L → ms_eq v (ms_it (ms_mf v F) k).1 → 2 * (130 - tm_cnt ((ms_it (ms_mf v F) k).1.2.1 10) 130) + (ms_it (ms_mf v F) k).2 ≤ N → ∃ m, ms_MP v F L2 m := by
    intro N
    induction N with
    | zero =>
      intro k h1 h2 h3 h4
      exact ⟨_, k, h1, by omega, rfl, h3⟩
    | succ N ih =>
      intro k h1 h2 h3 h4
      by_cases e : (ms_it (ms_mf v F) k).2 = 0
      · exact ⟨_, k, h1, e, rfl, h3⟩
      · have hp : 0 < (ms_it (ms_mf v F) k).2 := by omega
        have hmu := ms_one_mu h h3 h2 hp
        refine ih (k + 1) (fun j hj => ?_) (ms_one_OS h h3 h2 hp) (h3.tr (ms_eq.one _)) ?_
        · by_cases q : j = k
          · rw [q]; exact hp
          · exact h1 j (by omega)
        · show 2 * (130 - tm_cnt ((ms_one (ms_it (ms_mf v F) k)).1.2.1 10) 130) + (ms_one (ms_it (ms_mf v F) k)).2 ≤ N
          omega
  exact key _ 0 (fun j hj => absurd hj (Nat.not_lt_zero _)) (ms_mf_OS h F (Nat.le_refl _)) (ms_eq.mf v F) (Nat.le_refl _)
theorem sm_exC {L M : Nat → Prop} {u v : tm_SC} {F : Nat} (h : sm_M L u v F) (hM : cs_LL u M) : ∃ m, cs_MP u F L m := by
  have key : ∀ N k, k + N = 120 → (∀ j, j < k → j < tm_cnt ((cs_mc (cs_mf u F) j).2.1 10) 120) → ∃ m, cs_MP u F L m := by
    intro N
    have stop : ∀ k, k ≤ 120 → (∀ j, j < k → j < tm_cnt ((cs_mc (cs_mf u F) j).2.1 10) 120) → tm_cnt ((cs_mc (cs_mf u F) k).2.1 10) 120 ≤ k → ∃ m, cs_MP u F L m := by
      intro k h0 h1 h2
      obtain ⟨p, i1, i2, i3, -⟩ := sm_loopC h hM h1 k (Nat.le_refl _)
      refine ⟨_, k, h0, rfl, Nat.le_antisymm ?_ h2, i3, h1⟩
      cases k with
      | zero => exact Nat.zero_le _
      | succ k =>
        have a := h1 k (Nat.lt_succ_self _)
        have b : tm_cnt ((cs_mc (cs_mf u F) k).2.1 10) 120 ≤ tm_cnt ((cs_mc (cs_mf u F) (k + 1)).2.1 10) 120 := tm_cnt_mono 120 (fun c _ q => cs_look_10 8 q)
        omega
    induction N with
    | zero =>
      intro k hk h1
      exact stop k (by omega) h1 (by have := tm_cnt_le ((cs_mc (cs_mf u F) k).2.1 10) 120; omega)
    | succ N ih =>
      intro k hk h1
      by_cases e : k < tm_cnt ((cs_mc (cs_mf u F) k).2.1 10) 120
      · refine ih (k + 1) (by omega) (fun j hj => ?_)
        by_cases q : j = k
        · rw [q]; exact e
        · exact h1 j (by omega)
      · exact stop k (by omega) h1 (by omega)
  exact key 120 0 rfl (fun j hj => absurd hj (Nat.not_lt_zero _))
