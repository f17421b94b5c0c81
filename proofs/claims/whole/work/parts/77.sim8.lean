/-! both sides side by side: a step, steps -/
def sm_Z (u v : tm_SC) : Prop := u.1 1 = v.1 1 ∧ u.1 3 = v.1 3 ∧ u.1 5 = v.1 4 ∧ cs_LL u (fun _ => True) ∧ tm_b1 (u.1 9) ∧ ∀ m, tm_b1 (v.2.1 8 m)
def sm_GO (n : Nat) (u v : tm_SC) : Prop := ∃ F sp cap, F ≤ 120 ∧ sm_P n (fun c => ¬ u.2.1 10 c = 0) u v F ∧ (cap ≤ 120 ∧ u.1 2 = nI cap ∧ v.1 2 = nI cap) ∧ (u.1 4 = nI sp ∧ v.1 5 = nI sp ∧ sp ≤ cap) ∧ (0 < tm_cnt (u.2.1 10) 120 → tm_cnt (u.2.1 10) 120 + 1 ≤ sp) ∧ u.1 10 = v.1 6 ∧
  (∀ c, c < 120 → (u.2.1 10 c = 0 ↔ v.2.1 10 c = 0)) ∧ ∀ c, 120 ≤ c → c < 130 → v.2.1 10 c = 0
def sm_EN (u v : tm_SC) : Prop := u.1 9 = v.1 10 ∧ u.1 8 = (if v.1 10 = 0 then v.1 9 else v.2.1 9 (v.1 9).toNatClampNeg) ∧ (¬ v.1 10 = 0 → vp_in (v.1 9) 130)
def sm_S (n : Nat) (u v : tm_SC) : Prop := sm_A n u v ∧ sm_Z u v ∧ (u.1 1 = 1 → sm_GO n u v) ∧ (u.1 1 = 2 → sm_EN u v)
def sm_first (f : Nat → Int32) : Nat → Nat
  | 0 => 0
  | k + 1 => if sm_first f k = k ∧ ¬ f k = 0 then k + 1 else sm_first f k
theorem sm_first_s (f : Nat → Int32) : ∀ N, sm_first f N ≤ N ∧ (∀ j, j < sm_first f N → ¬ f j = 0) ∧ (sm_first f N < N → f (sm_first f N) = 0)
  | 0 => ⟨Nat.le_refl _, fun j h => absurd h (Nat.not_lt_zero _), fun h => absurd h (Nat.lt_irrefl _)⟩
  | k + 1 => by
    obtain ⟨h1, h2, h3⟩ := sm_first_s f k
    unfold sm_first
    split
    · next q =>
      refine ⟨Nat.le_refl _, fun j hj => ?_, fun h => absurd h (Nat.lt_irrefl _)⟩
      by_cases e : j = k
      · rw [e]; exact q.2
      · exact h2 j (by omega)
    · next q =>
      refine ⟨by omega, h2, fun h => ?_⟩
      by_cases e : sm_first f k = k
      · exact Classical.byContradiction (fun z => q ⟨e, by rw [e] at z; exact z⟩)
      · exact h3 (by omega)
theorem sm_cnt_all {f : Nat → Int32} : ∀ N, (∀ c, c < N → ¬ f c = 0) → tm_cnt f N = N
  | 0, _ => rfl
  | k + 1, h => by
    show tm_cnt f k + (if f k = 0 then 0 else 1) = k + 1
    rw [sm_cnt_all k (fun c hc => h c (by omega)), if_neg (h k (by omega))]
theorem sm_GO.slot {n : Nat} {u v : tm_SC} (h : sm_GO n u v) : sm_first (v.2.1 10) 130 < 120 ∧ v.2.1 10 (sm_first (v.2.1 10) 130) = 0 ∧ ∀ j, j < sm_first (v.2.1 10) 130 → ¬ v.2.1 10 j = 0 := by
  obtain ⟨F, sp, cap, -, -, ⟨c1, -, -⟩, ⟨-, -, c2⟩, c3, -, hS, -⟩ := h
  obtain ⟨f1, f2, f3⟩ := sm_first_s (v.2.1 10) 130
  have hlt : sm_first (v.2.1 10) 130 < 120 := by
    refine Classical.byContradiction (fun z => ?_)
    have hall := sm_cnt_all (f := u.2.1 10) 120 (fun c hc q => f2 c (by omega) ((hS c hc).mp q))
    have := c3 (by omega)
    omega
  exact ⟨hlt, f3 (by omega), f2⟩
theorem cs_LL.im {u : tm_SC} {L M : Nat → Prop} (h : cs_LL u L) (hm : ∀ c, c < 120 → L c → M c) : cs_LL u M :=
  ⟨h.1, fun j hj => (h.2.1 j hj).imp (fun c q => ⟨q.1, hm c q.1 q.2.1, q.2.2⟩), h.2.2⟩
theorem cs_LL.cp {u w : tm_SC} {L : Nat → Prop} (h : cs_LL u L) (e1 : w.1 10 = u.1 10) (e2 : w.2.1 10 = u.2.1 10) (e3 : w.2.1 11 = u.2.1 11) : cs_LL w L := by
  unfold cs_LL
  rw [e1, e2, e3]; exact h
theorem sm_mx (a b : Int32) : cs_mx a b = ms_gr a b := by
  unfold cs_mx ms_gr
  by_cases h : a < b
  · rw [if_pos h, if_pos (Int32.le_of_lt h)]
  · by_cases h2 : a ≤ b
    · rw [if_neg h, if_pos h2]
      exact Int32.le_antisymm h2 (Int32.not_lt.mp h)
    · rw [if_neg h, if_neg h2]
theorem sm_nIle {a b : Nat} (ha : a ≤ 3000) (hb : b ≤ 3000) (h : nI a = nI b) : a = b := (nI_eq (by omega) (by omega)).mp h
/-- both have failed -/
theorem sm_dead {n : Nat} {u v : tm_SC} (hA : sm_A n u v) (h1 : u.1 1 = 3) (h2 : v.1 1 = 3) (h3 : u.1 3 = v.1 3) (h4 : u.1 5 = v.1 4) (hL : cs_LL u (fun _ => True)) (hb : tm_b1 (u.1 9)) (h8 : ∀ m, tm_b1 (v.2.1 8 m)) : sm_S n u v :=
  ⟨hA, ⟨h1.trans h2.symm, h3, h4, hL, hb, h8⟩, fun q => absurd (h1.symm.trans q) (by decide), fun q => absurd (h1.symm.trans q) (by decide)⟩
def sm_cod (E : String) : Int32 := tw_code [("java/lang/IllegalArgumentException", 1), ("java/util/NoSuchElementException", 2), ("java/lang/UnsupportedOperationException", 3), ("java/lang/IllegalStateException", 4)] E
theorem sm_codN : sm_cod "java/util/NoSuchElementException" = 2 := by decide
theorem sm_codU : sm_cod "java/lang/UnsupportedOperationException" = 3 := by decide
theorem sm_codS : sm_cod "java/lang/IllegalStateException" = 4 := by decide
/-- both go on -/
theorem sm_on {n F : Nat} {L L1 L2 M : Nat → Prop} {w v1 m m' : tm_SC} {cap : Nat} (hA : sm_A n w v1) (hP : sm_P n L w v1 F) (hF : F ≤ 120) (hM : cs_LL w M) (hu : cs_MP w F L1 m) (hv : ms_MP v1 F L2 m') (hcap : cap ≤ 120 ∧ w.1 2 = nI cap ∧ v1.1 2 = nI cap) (h1 : w.1 1 = 1 ∧ v1.1 1 = 1) (h3 : w.1 3 = v1.1 3) (h4 : w.1 5 = v1.1 4) (hb : tm_b1 (w.1 9)) (h8 : ∀ m, tm_b1 (v1.2.1 8 m)) :
    ((m.1 2 < m.1 4) ↔ (m'.1 2 < m'.1 5)) ∧ (¬ m.1 2 < m.1 4 → sm_S n (tm_sf (tm_sf m 5 (cs_mx (m.1 5) (m.1 4))) 3 (m.1 3 + 1)) (ms_ok m')) ∧ sm_S n (tm_sf m 1 3) (tm_sf (tm_sf m' 12 4) 1 3) ∧ (∃ sp, m'.1 5 = nI sp ∧ m'.1 2 = nI cap ∧ sp ≤ 3000) ∧ sm_P n (fun c => ¬ m.2.1 10 c = 0) m m' F ∧ m.1 10 = m'.1 6 ∧
    (∃ sp, m.1 4 = nI sp ∧ m'.1 5 = nI sp ∧ F ≤ sp ∧ sp ≤ 3000 ∧ (0 < tm_cnt (m.2.1 10) 120 → tm_cnt (m.2.1 10) 120 + 1 ≤ sp)) ∧ (∀ c, c < 120 → (m.2.1 10 c = 0 ↔ m'.2.1 10 c = 0)) ∧ (∀ c, 120 ≤ c → c < 130 → m'.2.1 10 c = 0) ∧ cs_LL m L ∧ cs_eq w m ∧ ms_eq v1 m' := by
  obtain ⟨⟨sp, s1, s2, s3, s4, s5⟩, a1, a2, a3, a4, a5, a6, a7, a8⟩ := sm_meas hP.M hF hM hu hv
  have hR := hP.re a8 a5 a6 a7
  have c1 : m.1 2 = nI cap := (a5.2.2 2 (by decide) (by decide)).trans hcap.2.1
  have c2 : m'.1 2 = nI cap := (a6.2 2 (by decide) (by decide)).trans hcap.2.2
  have hLT : cs_LL m (fun _ => True) := a4.im (fun _ _ _ => trivial)
  have p1 := a5.2.2 1 (by decide) (by decide)
  have p3 := a5.2.2 3 (by decide) (by decide)
  have p5 := a5.2.2 5 (by decide) (by decide)
  have p9 := a5.2.2 9 (by decide) (by decide)
  have p11 := a5.2.2 11 (by decide) (by decide)
  have q0 := a6.2 0 (by decide) (by decide)
  have q1 := a6.2 1 (by decide) (by decide)
  have q3 := a6.2 3 (by decide) (by decide)
  have q4 := a6.2 4 (by decide) (by decide)
  have e8 := a6.1 8 (by decide) (by decide)
  have hAm : ∀ u9 v9 : tm_SC, u9.2 = m.2 → v9.2 = m'.2 → u9.1 11 = m.1 11 → v9.1 0 = m'.1 0 → sm_A n u9 v9 := fun u9 v9 z1 z2 z3 z4 => hA.same (fun j hj => by rw [z1]; exact a5.1 j (by omega) (by omega)) (z3.trans p11) (fun j hj => by rw [z2]; exact a6.1 j (by omega) (by omega)) (z4.trans q0)
  have hB : ∀ k, tm_b1 (m'.2.1 8 k) := fun k => by rw [e8]; exact h8 k
  refine ⟨by rw [c1, c2, s1, s2], fun hno => ⟨hAm _ _ rfl rfl rfl rfl, ⟨?_, ?_, ?_, hLT, ?_, hB⟩, fun _ => ⟨F, sp, cap, hF, ?_, ⟨hcap.1, c1, c2⟩, ⟨s1, s2, ?_⟩, s5, a1, a2, a3⟩, fun q => ?_⟩, sm_dead (hAm _ _ rfl rfl rfl rfl) rfl rfl ?_ ?_ hLT ?_ hB, ⟨sp, s2, c2, s4⟩, hR, a1, ⟨sp, s1, s2, s3, s4, s5⟩, a2, a3, a4, a5, a6⟩
  · show m.1 1 = m'.1 1
    rw [p1, q1, h1.1, h1.2]
  · show m.1 3 + 1 = m'.1 3 + 1
    rw [p3, q3, h3]
  · show cs_mx (m.1 5) (m.1 4) = ms_gr (m'.1 4) (m'.1 5)
    rw [sm_mx, p5, h4, q4, s1, s2]
  · show tm_b1 (m.1 9)
    rw [p9]; exact hb
  · exact hR.sc rfl rfl (fun j hj => by rcases hj with rfl | rfl | rfl <;> rfl) (fun j h1 h2 => by
      show upd (upd (upd m'.1 12 0) 3 _) 4 _ j = _
      rw [pk_un (by omega), pk_un (by omega), pk_un (by omega)])
  · rw [c1, s1] at hno
    exact Nat.le_of_not_lt (fun z => hno ((nI_ltI (by omega) (by omega)).mpr z))
  · have q : m.1 1 = 2 := q
    rw [p1, h1.1] at q; exact absurd q (by decide)
  · show m.1 3 = m'.1 3
    rw [p3, q3, h3]
  · show m.1 5 = m'.1 4
    rw [p5, q4, h4]
  · show tm_b1 (m.1 9)
    rw [p9]; exact hb
/-- a step, given its action's ends -/
theorem sm_fin {n cap : Nat} {u v v1 : tm_SC} {P : tm_SC → Prop} {PX : String → tm_SC → Prop} (hA : sm_A n u v) (hZ : sm_Z u v) (hst : u.1 1 = 1) (hcap : cap ≤ 120 ∧ u.1 2 = nI cap ∧ v.1 2 = nI cap) (hO : sm_O n u P PX v1) (hk : ∀ w, P w → sm_uC u w) (hm : sm_uM v v1) :
    (∀ u1 r v2, cs_stP P u1 → ms_fin v1 (v1.1 11).toNatClampNeg (fun _ => True) r v2 → ¬ r = 0 ∧ sm_S n u1 v2) ∧
    (∀ E u1 r v2, cs_stX P PX E u1 → ms_fin v1 (v1.1 11).toNatClampNeg (fun _ => True) r v2 → r = 0 ∧ v2.1 12 = sm_cod E ∧ ¬ v2.1 12 = 0 ∧ sm_S n u1 v2) ∧
    (∃ r v2, ms_fin v1 (v1.1 11).toNatClampNeg (fun _ => True) r v2) ∧ ((∃ u1, cs_stP P u1) ∨ ∃ E u1, cs_stX P PX E u1) ∧
    (∀ w, P w → w.1 1 = 1 → ∃ F2 L2 M2, cs_MI w F2 L2 M2) ∧ (v1.1 12 = 0 → v1.1 1 = 1 → ∃ L, ms_MI v1 (v1.1 11).toNatClampNeg L) := by
  obtain ⟨z1, z3, z5, zL, z9, z8⟩ := hZ
  obtain ⟨o1, o2, o3⟩ := hO
  have v11 : v1.1 1 = 1 := (hm.1 1 (by decide)).trans (z1.symm.trans hst)
  have h8 := hm.2.2 z8
  have hv : ∀ w, P w → sm_A n w v1 ∧ cs_LL w (fun _ => True) ∧ w.1 1 = 1 ∧ (cap ≤ 120 ∧ w.1 2 = nI cap ∧ v1.1 2 = nI cap) ∧ w.1 3 = v1.1 3 ∧ w.1 5 = v1.1 4 ∧ tm_b1 (w.1 9) := fun w h => by
    have k := hk w h
    exact ⟨hA.same (fun j hj => k.2 j (by omega) (by omega) (by omega) (by omega)) (k.1 11 (by decide) (by decide) (by decide)) (fun j hj => hm.2.1 j (Or.inl hj)) (hm.1 0 (by decide)),
      zL.cp (k.1 10 (by decide) (by decide) (by decide)) (k.2 10 (by decide) (by decide) (by decide) (by decide)) (k.2 11 (by decide) (by decide) (by decide) (by decide)),
      (k.1 1 (by decide) (by decide) (by decide)).trans hst, ⟨hcap.1, (k.1 2 (by decide) (by decide) (by decide)).trans hcap.2.1, (hm.1 2 (by decide)).trans hcap.2.2⟩,
      (k.1 3 (by decide) (by decide) (by decide)).trans (z3.trans (hm.1 3 (by decide)).symm), (k.1 5 (by decide) (by decide) (by decide)).trans (z5.trans (hm.1 4 (by decide)).symm), by rw [k.1 9 (by decide) (by decide) (by decide)]; exact z9⟩
  have hFe : ∀ w F L, F ≤ 121 → sm_P n L w v1 F → (v1.1 11).toNatClampNeg = F := fun w F L hF hP => by rw [hP.1.1.2]; exact nI_clamp (by omega)
  have hdead : ∀ v2 : tm_SC, sm_A n (tm_sf u 1 3) v2 → v2.1 1 = 3 → v2.1 3 = v1.1 3 → v2.1 4 = v1.1 4 → (∀ k, tm_b1 (v2.2.1 8 k)) → sm_S n (tm_sf u 1 3) v2 := fun v2 a b c d e =>
    sm_dead a rfl b (z3.trans ((hm.1 3 (by decide)).symm.trans c.symm)) (z5.trans ((hm.1 4 (by decide)).symm.trans d.symm)) zL z9 e
  have hA1 : ∀ v2 : tm_SC, (∀ j, j < 6 → v2.2.1 j = v1.2.1 j) → v2.1 0 = v1.1 0 → sm_A n (tm_sf u 1 3) v2 := fun v2 a b => hA.same (fun _ _ => rfl) rfl (fun j hj => (a j hj).trans (hm.2.1 j (Or.inl hj))) (b.trans (hm.1 0 (by decide)))
  refine ⟨fun u1 r v2 hc hr => ?_, fun E u1 r v2 hc hr => ?_, ?_, ?_, fun w hw _ => ?_, fun h12 _ => ?_⟩
  · obtain ⟨w, hw, hf⟩ := hc
    obtain ⟨b1, b2, b3, b4, b5, b6, b7⟩ := hv w hw
    obtain ⟨h12, L, F, hF, hP⟩ := o1 w hw
    rcases hf with q | ⟨-, F', L', m, ⟨q1, q2⟩, hmp, hno, rfl⟩
    · exact absurd b3 q.1
    · have eF : F' = F := sm_nIle (by omega) (by omega) (q1.symm.trans hP.1.1.1)
      subst eF
      rw [hFe w F' L (by omega) hP] at hr
      rcases hr with q | ⟨-, -, m', hmp', hr⟩ | q
      · exact absurd h12 q.1
      · obtain ⟨i1, i2, -⟩ := sm_on b1 hP hF b2 hmp hmp' b4 ⟨b3, v11⟩ b5 b6 b7 h8
        rcases hr with q | ⟨-, rfl, rfl⟩
        · exact absurd (i1.mpr q.1) hno
        · exact ⟨by decide, i2 hno⟩
      · exact absurd v11 q.2.1
  · rcases hc with hx | ⟨w, hw, -, F', L', m, ⟨q1, q2⟩, hmp, rfl, hlt, rfl⟩
    · obtain ⟨rfl, hE⟩ := o2 E u1 hx
      rcases hE with ⟨rfl, h12⟩ | ⟨rfl, h12⟩ | ⟨rfl, h12, L, hN⟩
      · rcases hr with ⟨-, rfl, rfl⟩ | ⟨q, -⟩ | ⟨q, -⟩
        · exact ⟨rfl, h12.trans sm_codN.symm, by show ¬ v1.1 12 = 0; rw [h12]; decide, hdead _ (hA1 _ (fun _ _ => rfl) rfl) rfl rfl rfl h8⟩
        · rw [h12] at q; exact absurd q (by decide)
        · rw [h12] at q; exact absurd q (by decide)
      · rcases hr with ⟨-, rfl, rfl⟩ | ⟨q, -⟩ | ⟨q, -⟩
        · exact ⟨rfl, h12.trans sm_codU.symm, by show ¬ v1.1 12 = 0; rw [h12]; decide, hdead _ (hA1 _ (fun _ _ => rfl) rfl) rfl rfl rfl h8⟩
        · rw [h12] at q; exact absurd q (by decide)
        · rw [h12] at q; exact absurd q (by decide)
      · have eF : (v1.1 11).toNatClampNeg = 121 := by rw [hN.1]; exact nI_clamp (by decide)
        rw [eF] at hr
        rcases hr with q | ⟨-, -, m', hmp', hr⟩ | q
        · exact absurd h12 q.1
        · obtain ⟨sp, s1, s2, s3⟩ := sm_spM hN (by decide) hmp'
          obtain ⟨-, -, hq, -⟩ := sm_measM hN hmp'
          have c2 : m'.1 2 = nI cap := (hq.2 2 (by decide) (by decide)).trans ((hm.1 2 (by decide)).trans hcap.2.2)
          rcases hr with ⟨-, rfl, rfl⟩ | ⟨q, -⟩
          · refine ⟨rfl, sm_codS.symm, by show ¬ (4 : Int32) = 0; decide, hdead _ (hA1 _ (fun j hj => hq.1 j (by omega) (by omega)) (hq.2 0 (by decide) (by decide))) rfl (hq.2 3 (by decide) (by decide)) (hq.2 4 (by decide) (by decide)) (fun k => ?_)⟩
            show tm_b1 (m'.2.1 8 k)
            rw [hq.1 8 (by decide) (by decide)]; exact h8 k
          · refine absurd ?_ q
            rw [c2, s1]
            exact (nI_ltI (by omega) (by omega)).mpr (by omega)
        · exact absurd v11 q.2.1
    · obtain ⟨b1, b2, b3, b4, b5, b6, b7⟩ := hv w hw
      obtain ⟨h12, L, F, hF, hP⟩ := o1 w hw
      have eF : F' = F := sm_nIle (by omega) (by omega) (q1.symm.trans hP.1.1.1)
      subst eF
      rw [hFe w F' L (by omega) hP] at hr
      rcases hr with q | ⟨-, -, m', hmp', hr⟩ | q
      · exact absurd h12 q.1
      · obtain ⟨i1, -, i3, -⟩ := sm_on b1 hP hF b2 hmp hmp' b4 ⟨b3, v11⟩ b5 b6 b7 h8
        rcases hr with ⟨-, rfl, rfl⟩ | ⟨q, -⟩
        · exact ⟨rfl, sm_codS.symm, by show ¬ (4 : Int32) = 0; decide, i3⟩
        · exact absurd (i1.mp hlt) q
      · exact absurd v11 q.2.1
  · by_cases h12 : v1.1 12 = 0
    · have : ∃ m', ms_MP v1 (v1.1 11).toNatClampNeg (fun _ => True) m' := by
        rcases o3 with ⟨w, hw⟩ | ⟨E, w, hx⟩
        · obtain ⟨-, L, F, hF, hP⟩ := o1 w hw
          rw [hFe w F L (by omega) hP]
          exact sm_exM (hP.M.N.MI (by omega)) _
        · rcases (o2 E w hx).2 with q | q | ⟨-, -, L, hN⟩
          · rw [h12] at q; exact absurd q.2 (by decide)
          · rw [h12] at q; exact absurd q.2 (by decide)
          · have eF : (v1.1 11).toNatClampNeg = 121 := by rw [hN.1]; exact nI_clamp (by decide)
            rw [eF]
            exact sm_exM (hN.MI (by decide)) _
      obtain ⟨m', hm'⟩ := this
      by_cases q : m'.1 2 < m'.1 5
      · exact ⟨_, _, Or.inr (Or.inl ⟨h12, v11, m', hm', Or.inl ⟨q, rfl, rfl⟩⟩)⟩
      · exact ⟨_, _, Or.inr (Or.inl ⟨h12, v11, m', hm', Or.inr ⟨q, rfl, rfl⟩⟩)⟩
    · exact ⟨_, _, Or.inl ⟨h12, rfl, rfl⟩⟩
  · rcases o3 with ⟨w, hw⟩ | ⟨E, w, hx⟩
    · obtain ⟨b1, b2, b3, b4, b5, b6, b7⟩ := hv w hw
      obtain ⟨h12, L, F, hF, hP⟩ := o1 w hw
      obtain ⟨m, hmp⟩ := sm_exC hP.M b2
      by_cases q : m.1 2 < m.1 4
      · exact Or.inr ⟨_, _, Or.inr ⟨w, hw, b3, F, L, m, ⟨hP.1.1.1, hF⟩, hmp, rfl, q, rfl⟩⟩
      · exact Or.inl ⟨_, w, hw, Or.inr ⟨b3, F, L, m, ⟨hP.1.1.1, hF⟩, hmp, q, rfl⟩⟩
    · exact Or.inr ⟨E, w, Or.inl hx⟩
  · obtain ⟨b1, b2, -⟩ := hv w hw
    obtain ⟨-, L, F, hF, hP⟩ := o1 w hw
    exact ⟨F, L, _, hP.M.MI hF b2⟩
  · rcases o3 with ⟨w, hw⟩ | ⟨E, w, hx⟩
    · obtain ⟨-, L, F, hF, hP⟩ := o1 w hw
      rw [hFe w F L (by omega) hP]
      exact ⟨L, hP.M.N.MI (by omega)⟩
    · rcases (o2 E w hx).2 with q | q | ⟨-, -, L, hN⟩
      · rw [h12] at q; exact absurd q.2 (by decide)
      · rw [h12] at q; exact absurd q.2 (by decide)
      · have eF : (v1.1 11).toNatClampNeg = 121 := by rw [hN.1]; exact nI_clamp (by decide)
        rw [eF]
        exact ⟨L, hN.MI (by decide)⟩
