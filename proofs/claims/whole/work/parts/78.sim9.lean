/-! both sides side by side: steps -/
def cs_lf (u : tm_SC) : Nat := (u.1 0).toNatClampNeg - 1
def ms_lf (v : tm_SC) : Nat := (v.1 11).toNatClampNeg - 1
def cs_PA (u : tm_SC) : tm_SC → Prop := if u.1 6 = 0 then (if u.1 0 = 0 then (fun w => w = cs_end u) else cs_bkP u (cs_lf u) (cs_xe u (cs_lf u)) (cs_xc u (cs_lf u)) (cs_xg u (cs_lf u)) (cs_xa u (cs_lf u)) (cs_xb u (cs_lf u))) else cs_evP u (u.1 7).toNatClampNeg (u.1 0).toNatClampNeg
def cs_XA (u : tm_SC) : String → tm_SC → Prop := if u.1 6 = 0 then (if u.1 0 = 0 then (fun _ _ => False) else cs_bkX u (cs_lf u)) else cs_evX u (u.1 7).toNatClampNeg (u.1 0).toNatClampNeg
def ms_A1 (v : tm_SC) : tm_SC := if v.1 7 = 0 then ms_evl (tm_sf v 12 0) (v.1 8).toNatClampNeg (v.1 11).toNatClampNeg (sm_first (v.2.1 10) 130) else if v.1 11 = 0 then tm_sf (tm_sf v 12 0) 1 2 else ms_bk (tm_sf v 12 0) (ms_lf v) (ms_xc v (ms_lf v)) (ms_xg v (ms_lf v)) (ms_xa v (ms_lf v)) (ms_xb v (ms_lf v))
def cs_T (u : tm_SC) : tm_SC → Prop := cs_stP (cs_PA u)
def cs_TX (u : tm_SC) : String → tm_SC → Prop := cs_stX (cs_PA u) (cs_XA u)
def ms_T (v : tm_SC) : Int32 → tm_SC → Prop := ms_fin (ms_A1 v) ((ms_A1 v).1 11).toNatClampNeg (fun _ => True)
theorem sm_S.sc {n : Nat} {u v v' : tm_SC} (h : sm_S n u v) (e2 : v'.2 = v.2) (e : ∀ j, j < 12 → v'.1 j = v.1 j) : sm_S n u v' := by
  obtain ⟨hA, hZ, hG, hE⟩ := h
  refine ⟨hA.same (fun _ _ => rfl) rfl (fun j _ => by rw [e2]) (e 0 (by decide)), ?_, fun q => ?_, fun q => ?_⟩
  · unfold sm_Z
    rw [e2, e 1 (by decide), e 3 (by decide), e 4 (by decide)]; exact hZ
  · obtain ⟨F, sp, cap, h1, h2, h3⟩ := hG q
    refine ⟨F, sp, cap, h1, h2.sc rfl e2 (fun _ _ => rfl) (fun j _ h => e j (by omega)), ?_⟩
    rw [e2, e 2 (by decide), e 5 (by decide), e 6 (by decide)]; exact h3
  · unfold sm_EN
    rw [e2, e 9 (by decide), e 10 (by decide)]; exact hE q
theorem sm_S.s13 {n : Nat} {u v : tm_SC} (h : sm_S n u v) (x : Int32) : sm_S n u (tm_sf v 13 x) := h.sc rfl (fun j hj => pk_un (by omega))
theorem sm_S.s12 {n : Nat} {u v : tm_SC} (h : sm_S n u v) (x : Int32) : sm_S n u (tm_sf v 12 x) := h.sc rfl (fun j hj => pk_un (by omega))
/-- the three kinds of steps -/
theorem sm_modes {n : Nat} {u v : tm_SC} (h : sm_S n u v) (hs : u.1 1 = 1) :
    (∃ e F L, ¬ u.1 6 = 0 ∧ v.1 7 = 0 ∧ e < n ∧ u.1 7 = nI e ∧ v.1 8 = nI e ∧ F ≤ 120 ∧ sm_Q n L u v F ∧ sm_W L u v 0 0) ∨
    (∃ f L, u.1 6 = 0 ∧ ¬ v.1 7 = 0 ∧ f < 120 ∧ sm_Q n L u v (f + 1) ∧ sm_1 L u 0 (v.1 9) (v.1 10)) ∨
    (∃ L, u.1 6 = 0 ∧ ¬ v.1 7 = 0 ∧ sm_Q n L u v 0 ∧ sm_1 L u 0 (v.1 9) (v.1 10)) := by
  obtain ⟨F, sp, cap, hF, hP, -⟩ := h.2.2.1 hs
  rcases hP.2 with ⟨a1, a2, ⟨e, he, e1, e2⟩, hw⟩ | ⟨a1, a2, h1⟩
  · exact Or.inl ⟨e, F, _, by rw [a1]; decide, a2, he, e1, e2, hF, hP.1, hw⟩
  · cases F with
    | zero => exact Or.inr (Or.inr ⟨_, a1, by rw [a2]; decide, hP.1, h1⟩)
    | succ f => exact Or.inr (Or.inl ⟨f, _, a1, by rw [a2]; decide, hF, hP.1, h1⟩)
theorem sm_Q.s12 {n F : Nat} {L : Nat → Prop} {u v : tm_SC} (h : sm_Q n L u v F) (x : Int32) : sm_Q n L u (tm_sf v 12 x) F := h
theorem sm_A.s12 {n : Nat} {u v : tm_SC} (h : sm_A n u v) (x : Int32) : sm_A n u (tm_sf v 12 x) := h
theorem sm_step {n : Nat} {u v : tm_SC} (h : sm_S n u v) (hs : u.1 1 = 1) :
    (∀ u1 r v2, cs_T u u1 → ms_T v r v2 → ¬ r = 0 ∧ sm_S n u1 v2) ∧ (∀ E u1 r v2, cs_TX u E u1 → ms_T v r v2 → r = 0 ∧ v2.1 12 = sm_cod E ∧ ¬ v2.1 12 = 0 ∧ sm_S n u1 v2) ∧ (∃ r v2, ms_T v r v2) ∧ ((∃ u1, cs_T u u1) ∨ ∃ E u1, cs_TX u E u1) ∧
    (∀ w, cs_PA u w → w.1 1 = 1 → ∃ F2 L2 M2, cs_MI w F2 L2 M2) ∧ ((ms_A1 v).1 12 = 0 → (ms_A1 v).1 1 = 1 → ∃ L, ms_MI (ms_A1 v) ((ms_A1 v).1 11).toNatClampNeg L) := by
  have hG := h.2.2.1 hs
  obtain ⟨-, sp, cap, -, -, hcap, -, -, -, hSet, -⟩ := hG
  rcases sm_modes h hs with ⟨e, F, L, m6, m7, he, e1, e2, hF, hQ, hw⟩ | ⟨f, L, m6, m7, hf, hQ, h1⟩ | ⟨L, m6, m7, hQ, h1⟩
  · have hn := h.1.1
    have d1 : (u.1 7).toNatClampNeg = e := by rw [e1]; exact nI_clamp (by omega)
    have d2 : (u.1 0).toNatClampNeg = F := by rw [hQ.1.1]; exact nI_clamp (by omega)
    have d3 : (v.1 8).toNatClampNeg = e := by rw [e2]; exact nI_clamp (by omega)
    have d4 : (v.1 11).toNatClampNeg = F := by rw [hQ.1.2]; exact nI_clamp (by omega)
    have p1 : cs_PA u = cs_evP u e F := by unfold cs_PA; rw [if_neg m6, d1, d2]
    have p2 : cs_XA u = cs_evX u e F := by unfold cs_XA; rw [if_neg m6, d1, d2]
    have p3 : ms_A1 v = ms_evl (tm_sf v 12 0) e F (sm_first (v.2.1 10) 130) := by unfold ms_A1; rw [if_pos m7, d3, d4]
    have hO := sm_evO (v := tm_sf v 12 0) (h.1.s12 0) (hQ.s12 0) hF hw m7 rfl he hSet (h.2.2.1 hs).slot
    unfold cs_T cs_TX ms_T
    rw [p1, p2, p3]
    exact sm_fin h.1 h.2.1 hs hcap hO (fun w hw => sm_uC.evP hw) ((sm_uM.rf.sf _ (by decide) (by decide)).evl _ _ _)
  · have d2 : cs_lf u = f := by unfold cs_lf; rw [hQ.1.1, nI_clamp (by omega)]; rfl
    have d4 : ms_lf v = f := by unfold ms_lf; rw [hQ.1.2, nI_clamp (by omega)]; rfl
    have z1 : ¬ u.1 0 = 0 := by rw [hQ.1.1]; exact nI_ne0 (by omega) (by omega)
    have z2 : ¬ v.1 11 = 0 := by rw [hQ.1.2]; exact nI_ne0 (by omega) (by omega)
    have p1 : cs_PA u = cs_bkP u f (cs_xe u f) (cs_xc u f) (cs_xg u f) (cs_xa u f) (cs_xb u f) := by unfold cs_PA; rw [if_pos m6, if_neg z1, d2]
    have p2 : cs_XA u = cs_bkX u f := by unfold cs_XA; rw [if_pos m6, if_neg z1, d2]
    have p3 : ms_A1 v = ms_bk (tm_sf v 12 0) f (ms_xc v f) (ms_xg v f) (ms_xa v f) (ms_xb v f) := by unfold ms_A1; rw [if_neg m7, if_neg z2, d4]
    have hO := sm_bkO (v := tm_sf v 12 0) (h.1.s12 0) (hQ.s12 0) hf h1 rfl
    unfold cs_T cs_TX ms_T
    rw [p1, p2, p3]
    exact sm_fin h.1 h.2.1 hs hcap hO (fun w hw => sm_uC.bkP hw) ((sm_uM.rf.sf _ (by decide) (by decide)).bk _ _ _ _ _ h1.2.b)
  · have z1 : u.1 0 = 0 := hQ.1.1
    have z2 : v.1 11 = 0 := hQ.1.2
    have p1 : cs_PA u = fun w => w = cs_end u := by unfold cs_PA; rw [if_pos m6, if_pos z1]
    have p2 : cs_XA u = fun _ _ => False := by unfold cs_XA; rw [if_pos m6, if_pos z1]
    have p3 : ms_A1 v = tm_sf (tm_sf v 12 0) 1 2 := by unfold ms_A1; rw [if_neg m7, if_pos z2]
    have ce : (cs_end u).1 1 = 2 := rfl
    have s2 : (tm_sf (tm_sf v 12 0) 1 2).1 1 = 2 := rfl
    obtain ⟨y1, y3, y5, yL, y9, y8⟩ := h.2.1
    unfold cs_T cs_TX ms_T
    rw [p1, p2, p3]
    refine ⟨fun u1 r v2 hc hr => ?_, fun E u1 r v2 hc _ => ?_, ⟨_, _, Or.inr (Or.inr ⟨rfl, by rw [s2]; decide, rfl, rfl⟩)⟩, Or.inl ⟨_, _, rfl, Or.inl ⟨by rw [ce]; decide, rfl⟩⟩, fun w hw q => ?_, fun _ q => ?_⟩
    · obtain ⟨w, rfl, hf⟩ := hc
      rcases hf with ⟨-, rfl⟩ | ⟨q, -⟩
      · rcases hr with ⟨q, -⟩ | ⟨-, q, -⟩ | ⟨-, -, rfl, rfl⟩
        · exact absurd rfl q
        · rw [s2] at q; exact absurd q (by decide)
        · refine ⟨by decide, h.1.same (fun _ _ => rfl) rfl (fun _ _ => rfl) rfl, ⟨rfl, ?_, ?_, yL, ?_, y8⟩, fun q => ?_, fun _ => ?_⟩
          · show u.1 3 + 1 = v.1 3 + 1
            rw [y3]
          · show u.1 5 = v.1 4
            exact y5
          · show tm_b1 (if u.2.2 (0 * 8 + 0) < 4294967296 then 0 else 1)
            split
            · exact Or.inl rfl
            · exact Or.inr rfl
          · exact absurd (show (2 : Int32) = 1 from q) (by decide)
          · show (if u.2.2 (0 * 8 + 0) < 4294967296 then (0 : Int32) else 1) = v.1 10 ∧ (if u.2.2 (0 * 8 + 0) < 4294967296 then (u.2.2 (0 * 8 + 0)).toInt32 else u.2.1 9 (cs_sl (u.2.2 (0 * 8 + 0)))) = (if v.1 10 = 0 then v.1 9 else v.2.1 9 (v.1 9).toNatClampNeg) ∧ (¬ v.1 10 = 0 → vp_in (v.1 9) 130)
            rcases h1.2 with ⟨b0, ex⟩ | ⟨b1, c, hc, hL, ec, ex⟩
            · rw [b0, ex, if_pos (sm_int _), if_pos (sm_int _), if_pos rfl, sm_i64]
              exact ⟨rfl, rfl, fun q => absurd rfl q⟩
            · obtain ⟨g, -, g1, g2, -⟩ := hQ.2.2 c hc hL
              rw [b1, ex, if_neg (sm_clo hc), if_neg (sm_clo hc), if_neg (by decide), cs_sl_n hc, ec, nI_clamp (by omega), g1, g2]
              exact ⟨rfl, rfl, fun _ => vp_in_nI (by omega) (by decide)⟩
      · rw [ce] at q; exact absurd q (by decide)
    · rcases hc with q | ⟨w, rfl, q, -⟩
      · exact q.elim
      · rw [ce] at q; exact absurd q (by decide)
    · rw [hw, ce] at q; exact absurd q (by decide)
    · rw [s2] at q; exact absurd q (by decide)
theorem sm_runN {n : Nat} : ∀ k d (u v u1 v2 : tm_SC) (d1 d2 : Nat), sm_S n u v → v.1 13 = 0 → cs_rn cs_T k d u d1 u1 → ms_rn ms_T k d v d2 v2 → d1 = d2 ∧ v2.1 13 = 0 ∧ sm_S n u1 v2
  | 0, d, u, v, u1, v2, d1, d2, h, h13, hc, hr => by
    obtain ⟨rfl, rfl⟩ := hc
    obtain ⟨rfl, rfl⟩ := hr
    exact ⟨rfl, h13, h⟩
  | k + 1, d, u, v, u1, v2, d1, d2, h, h13, hc, hr => by
    have hst := h.2.1.1
    rcases hc with ⟨q, rfl, rfl⟩ | ⟨q, u', hT, hc⟩
    · rcases hr with ⟨-, rfl, rfl⟩ | ⟨q2, -⟩
      · exact ⟨rfl, h13, h⟩
      · exact absurd (hst.trans q2) q
    · rcases hr with ⟨q2, -⟩ | ⟨-, r, v', hT2, hr⟩
      · exact absurd (hst.symm.trans q) q2
      · obtain ⟨a1, a2⟩ := (sm_step h q).1 u' r v' hT hT2
        rcases hr with ⟨z, -⟩ | ⟨-, hr⟩
        · exact absurd z a1
        · exact sm_runN k (d + 1) u' (tm_sf v' 13 0) u1 v2 d1 d2 (a2.s13 0) rfl hc hr
theorem sm_runX {n : Nat} : ∀ k d (u v u1 v2 : tm_SC) (E : String) (d2 : Nat), sm_S n u v → cs_rx cs_T cs_TX k u E u1 → ms_rn ms_T k d v d2 v2 → v2.1 13 = sm_cod E ∧ ¬ v2.1 13 = 0 ∧ sm_S n u1 v2
  | 0, d, u, v, u1, v2, E, d2, h, hc, hr => hc.elim
  | k + 1, d, u, v, u1, v2, E, d2, h, hc, hr => by
    have hst := h.2.1.1
    obtain ⟨q, hc⟩ := hc
    rcases hr with ⟨q2, -⟩ | ⟨-, r, v', hT2, hr⟩
    · exact absurd (hst.symm.trans q) q2
    · rcases hc with hX | ⟨u', hT, hc⟩
      · obtain ⟨a1, a2, a3, a4⟩ := (sm_step h q).2.1 E u1 r v' hX hT2
        rcases hr with ⟨-, -, rfl⟩ | ⟨z, -⟩
        · exact ⟨a2, a3, a4.s13 _⟩
        · exact absurd a1 z
      · obtain ⟨a1, a2⟩ := (sm_step h q).1 u' r v' hT hT2
        rcases hr with ⟨z, -⟩ | ⟨-, hr⟩
        · exact absurd z a1
        · exact sm_runX k (d + 1) u' (tm_sf v' 13 0) u1 v2 E d2 (a2.s13 0) hc hr
def sm_JC (u : tm_SC) : Prop := ∃ n v, sm_S n u v
def sm_JM (v : tm_SC) : Prop := ∃ n u, sm_S n u v
theorem sm_JC.T {u u1 : tm_SC} (h : sm_JC u) (hs : u.1 1 = 1) (hT : cs_T u u1) : sm_JC u1 := by
  obtain ⟨n, v, h⟩ := h
  obtain ⟨a1, a2, ⟨r, v2, a3⟩, -⟩ := sm_step h hs
  exact ⟨n, v2, (a1 u1 r v2 hT a3).2⟩
theorem sm_JM.T {v v2 : tm_SC} {r : Int32} (h : sm_JM v) (hs : v.1 1 = 1) (hT : ms_T v r v2) : (r = 0 → ¬ v2.1 12 = 0) ∧ (¬ r = 0 → sm_JM (tm_sf v2 13 0)) := by
  obtain ⟨n, u, h⟩ := h
  obtain ⟨a1, a2, -, a3, -⟩ := sm_step h (h.2.1.1.trans hs)
  rcases a3 with ⟨u1, hc⟩ | ⟨E, u1, hc⟩
  · obtain ⟨b1, b2⟩ := a1 u1 r v2 hc hT
    exact ⟨fun q => absurd q b1, fun _ => ⟨n, u1, b2.s13 0⟩⟩
  · obtain ⟨b1, b2, b3, b4⟩ := a2 E u1 r v2 hc hT
    exact ⟨fun _ => b3, fun q => absurd b1 q⟩
-- the contracts of a step
section SMC
variable {l : Launch} {D : va_G} {cI cL cZ : ClassId} {ad : Nat → Nat}
theorem sm_cS (hst : l.stackTraces = false) {u : tm_SC} (h : sm_JC u) (hs : u.1 1 = 1) : tx_V l y_RN_step b_RN_step 1 ({ frames := 11, cells := 1, slots := 6, locals := 260 } : Room) D (tm_yC cI cL cZ) (tm_wC ad cI cL cZ) [.ref (ad 8)] u (cs_T u) (cs_TX u) := by
  obtain ⟨n, v, h⟩ := h
  obtain ⟨-, -, -, -, hM, -⟩ := sm_step h hs
  have hG := h.2.2.1 hs
  rcases sm_modes h hs with ⟨e, F, L, m6, m7, he, e1, e2, hF, hQ, hw⟩ | ⟨f, L, m6, m7, hf, hQ, h1⟩ | ⟨L, m6, m7, hQ, h1⟩
  · have hn := h.1.1
    have d1 : (u.1 7).toNatClampNeg = e := by rw [e1]; exact nI_clamp (by omega)
    have d2 : (u.1 0).toNatClampNeg = F := by rw [hQ.1.1]; exact nI_clamp (by omega)
    have p1 : cs_PA u = cs_evP u e F := by unfold cs_PA; rw [if_neg m6, d1, d2]
    have p2 : cs_XA u = cs_evX u e F := by unfold cs_XA; rw [if_neg m6, d1, d2]
    unfold cs_T cs_TX
    rw [p1] at hM ⊢
    rw [p2]
    exact c_RN_step_ev l D cI cL cZ ad hst e F u m6 (sm_evI h.1 h.2.1.2.2.2.2.2 hQ hF he e1 e2 hG.slot).1 hM
  · have d2 : cs_lf u = f := by unfold cs_lf; rw [hQ.1.1, nI_clamp (by omega)]; rfl
    have z1 : ¬ u.1 0 = 0 := by rw [hQ.1.1]; exact nI_ne0 (by omega) (by omega)
    have p1 : cs_PA u = cs_bkP u f (cs_xe u f) (cs_xc u f) (cs_xg u f) (cs_xa u f) (cs_xb u f) := by unfold cs_PA; rw [if_pos m6, if_neg z1, d2]
    have p2 : cs_XA u = cs_bkX u f := by unfold cs_XA; rw [if_pos m6, if_neg z1, d2]
    unfold cs_T cs_TX
    rw [p1] at hM ⊢
    rw [p2]
    exact c_RN_step_bk l D cI cL cZ ad hst f _ _ _ _ _ u m6 (sm_bkI h.1 h.2.1.2.2.2.2.2 hQ hf h1).1 hM
  · have z1 : u.1 0 = 0 := hQ.1.1
    have p1 : cs_PA u = fun w => w = cs_end u := by unfold cs_PA; rw [if_pos m6, if_pos z1]
    have p2 : cs_XA u = fun _ _ => False := by unfold cs_XA; rw [if_pos m6, if_pos z1]
    unfold cs_T cs_TX
    rw [p1] at hM ⊢
    rw [p2]
    refine c_RN_step_0 l D cI cL cZ ad hst u m6 z1 (fun q => ?_) hM
    rcases h1.2 with ⟨b0, ex⟩ | ⟨b1, c, hc, hL, ec, ex⟩
    · rw [ex] at q; exact absurd (sm_int _) q
    · rw [ex, cs_sl_of hc]; exact vp_in_nI hc (by decide)
theorem sm_mS {v : tm_SC} (h : sm_JM v) (hs : v.1 1 = 1) : tm_I l y_MD_step b_MD_step 1 .boolean ({ frames := 5, cells := 0, slots := 0, locals := 170 } : Room) D (tm_yM cI cZ) (tm_wM ad cI cZ) [.ref (ad 0)] v (ms_T v) := by
  obtain ⟨n, u, h⟩ := h
  have hs' := h.2.1.1.trans hs
  obtain ⟨-, -, -, -, -, hM⟩ := sm_step h hs'
  have hG := h.2.2.1 hs'
  have hM2 : ∃ L, (ms_A1 v).1 12 = 0 → (ms_A1 v).1 1 = 1 → ms_MI (ms_A1 v) ((ms_A1 v).1 11).toNatClampNeg L := by
    by_cases q : (ms_A1 v).1 12 = 0 ∧ (ms_A1 v).1 1 = 1
    · obtain ⟨L, hL⟩ := hM q.1 q.2
      exact ⟨L, fun _ _ => hL⟩
    · exact ⟨fun _ => True, fun a b => absurd ⟨a, b⟩ q⟩
  obtain ⟨L9, hM9⟩ := hM2
  rcases sm_modes h hs' with ⟨e, F, L, m6, m7, he, e1, e2, hF, hQ, hw⟩ | ⟨f, L, m6, m7, hf, hQ, h1⟩ | ⟨L, m6, m7, hQ, h1⟩
  · have hn := h.1.1
    have d3 : (v.1 8).toNatClampNeg = e := by rw [e2]; exact nI_clamp (by omega)
    have d4 : (v.1 11).toNatClampNeg = F := by rw [hQ.1.2]; exact nI_clamp (by omega)
    have p3 : ms_A1 v = ms_evl (tm_sf v 12 0) e F (sm_first (v.2.1 10) 130) := by unfold ms_A1; rw [if_pos m7, d3, d4]
    unfold ms_T
    rw [p3] at hM9 ⊢
    exact c_MD_step_ev l D cI cZ ad e F _ _ L9 v m7 (sm_evI (v := tm_sf v 12 0) (h.1.s12 0) h.2.1.2.2.2.2.2 (hQ.s12 0) hF he e1 e2 hG.slot).2 hM9
  · have d4 : ms_lf v = f := by unfold ms_lf; rw [hQ.1.2, nI_clamp (by omega)]; rfl
    have z2 : ¬ v.1 11 = 0 := by rw [hQ.1.2]; exact nI_ne0 (by omega) (by omega)
    have p3 : ms_A1 v = ms_bk (tm_sf v 12 0) f (ms_xc v f) (ms_xg v f) (ms_xa v f) (ms_xb v f) := by unfold ms_A1; rw [if_neg m7, if_neg z2, d4]
    unfold ms_T
    rw [p3] at hM9 ⊢
    exact c_MD_step_bk l D cI cZ ad f _ _ _ _ _ L9 v m7 (sm_bkI (v := tm_sf v 12 0) (h.1.s12 0) h.2.1.2.2.2.2.2 (hQ.s12 0) hf h1).2 hM9
  · have z2 : v.1 11 = 0 := hQ.1.2
    have p3 : ms_A1 v = tm_sf (tm_sf v 12 0) 1 2 := by unfold ms_A1; rw [if_neg m7, if_pos z2]
    unfold ms_T
    rw [p3] at hM9 ⊢
    exact c_MD_step_0 l D cI cZ ad _ L9 v m7 z2 hM9
end SMC
