/-! both sides side by side: the return to a frame -/
def cs_xe (u : tm_SC) (f : Nat) : Nat := (u.2.1 7 f).toNatClampNeg
def cs_xc (u : tm_SC) (f : Nat) : Nat := cs_sl (u.2.2 ((1 + f) * 8 + 0))
def cs_xg (u : tm_SC) (f : Nat) : Nat := (u.2.1 9 (cs_xc u f)).toNatClampNeg
def cs_xa (u : tm_SC) (f : Nat) : Nat := (u.2.1 2 (cs_xg u f)).toNatClampNeg
def cs_xb (u : tm_SC) (f : Nat) : Nat := (u.2.1 1 (cs_xg u f)).toNatClampNeg
def ms_xc (v : tm_SC) (f : Nat) : Nat := (v.2.1 15 f).toNatClampNeg
def ms_xg (v : tm_SC) (f : Nat) : Nat := (v.2.1 9 (ms_xc v f)).toNatClampNeg
def ms_xa (v : tm_SC) (f : Nat) : Nat := (v.2.1 2 (ms_xg v f)).toNatClampNeg
def ms_xb (v : tm_SC) (f : Nat) : Nat := (v.2.1 3 (ms_xg v f)).toNatClampNeg
/-- what a waiting call knows of its closure -/
theorem sm_xx {n f : Nat} {L : Nat → Prop} {u v : tm_SC} (hA : sm_A n u v) (h : sm_Q n L u v (f + 1)) (h2 : sm_1 L u (1 + f) (v.2.1 15 f) (v.2.1 16 f)) (hb : ¬ v.2.1 16 f = 0) :
    ∃ c g a b, cs_xc u f = c ∧ cs_xg u f = g ∧ cs_xa u f = a ∧ cs_xb u f = b ∧ ms_xc v f = c ∧ ms_xg v f = g ∧ ms_xa v f = a ∧ ms_xb v f = b ∧ c < 120 ∧ L c ∧ v.2.1 15 f = nI c ∧ u.2.2 ((1 + f) * 8 + 0) = 4294967296 + (nI c).toInt64 ∧ g < n ∧ u.2.1 9 c = nI g ∧ v.2.1 9 c = nI g ∧
      a < 8 ∧ u.2.1 2 g = nI a ∧ v.2.1 2 g = nI a ∧ b < n ∧ u.2.1 1 g = nI b ∧ v.2.1 3 g = nI b ∧ ((u.2.1 3 g = -1 ∧ v.2.1 1 g < 0) ∨ (¬ u.2.1 3 g = -1 ∧ ¬ v.2.1 1 g < 0 ∧ ∃ s, s < 8 ∧ u.2.1 3 g = nI s ∧ v.2.1 1 g = nI s)) := by
  rcases h2.2 with q | ⟨-, c, hc, hL, e15, ev⟩
  · exact absurd q.1 hb
  · obtain ⟨g, hg, g1, g2, g3, -⟩ := h.2.2 c hc hL
    obtain ⟨⟨x0, x4, x5, x2⟩, -, -, hX⟩ := hA.2.2.2 g hg
    have hn := hA.1
    rcases hX with q | q | q | q
    · rw [g3] at q; exact absurd q.1 (by decide)
    · rw [g3] at q; exact absurd q.1 (by decide)
    · obtain ⟨-, e1, e3, v2, v3, hs⟩ := q
      obtain ⟨a, ha, ea, eac⟩ := sm_vi v2 (by decide)
      obtain ⟨b, hb2, eb, ebc⟩ := sm_vi v3 hn
      have c1 : cs_xc u f = c := by unfold cs_xc; rw [ev]; exact cs_sl_n hc
      have c2 : cs_xg u f = g := by unfold cs_xg; rw [c1, g1]; exact nI_clamp (by omega)
      have m1 : ms_xc v f = c := by unfold ms_xc; rw [e15]; exact nI_clamp (by omega)
      have m2 : ms_xg v f = g := by unfold ms_xg; rw [m1, g2]; exact nI_clamp (by omega)
      refine ⟨c, g, a, b, c1, c2, ?_, ?_, m1, m2, ?_, ?_, hc, hL, e15, ev, hg, g1, g2, ha, x2.trans ea, ea, hb2, e1.trans eb, eb, ?_⟩
      · unfold cs_xa; rw [c2, x2]; exact eac
      · unfold cs_xb; rw [c2, e1]; exact ebc
      · unfold ms_xa; rw [m2]; exact eac
      · unfold ms_xb; rw [m2]; exact ebc
      · rw [e3]
        rcases hs with z | z
        · exact Or.inl ⟨z, by rw [z]; decide⟩
        · obtain ⟨s, s1, s2, -⟩ := sm_vi z (by decide)
          refine Or.inr ⟨?_, ?_, s, s1, s2, s2⟩
          · rw [s2]
            have : ∀ s, s < 8 → ¬ nI s = -1 := by decide +kernel
            exact this s s1
          · rw [s2]; exact nI_pos (by omega)
    · rw [g3] at q; exact absurd q.1 (by decide)
theorem sm_k3 {n : Nat} {u v : tm_SC} (hA : sm_A n u v) {e : Nat} (he : e < n) (h0 : v.2.1 0 e = 3 ∨ v.2.1 0 e = 4 ∨ v.2.1 0 e = 5) : u.2.1 0 e = v.2.1 0 e ∧ u.2.1 1 e = v.2.1 1 e ∧ u.2.1 2 e = v.2.1 2 e ∧ u.2.1 3 e = v.2.1 3 e ∧ (∃ a, a < n ∧ v.2.1 1 e = nI a) ∧ (∃ b, b < n ∧ v.2.1 2 e = nI b) ∧ (v.2.1 0 e = 5 → ∃ d, d < n ∧ v.2.1 3 e = nI d) := by
  obtain ⟨⟨x0, x4, x5, x2⟩, -, -, hX⟩ := hA.2.2.2 e he
  have hn := hA.1
  rcases hX with q | q | q | q
  · rw [q.1] at h0; exact absurd h0 (by decide)
  · rw [q.1] at h0; exact absurd h0 (by decide)
  · rw [q.1] at h0; exact absurd h0 (by decide)
  · exact ⟨x0, q.2.1, x2, q.2.2.1, (sm_vi q.2.2.2.1 hn).imp (fun a z => ⟨z.1, z.2.1⟩), (sm_vi q.2.2.2.2.1 hn).imp (fun a z => ⟨z.1, z.2.1⟩), fun y => (sm_vi (q.2.2.2.2.2 y) hn).imp (fun a z => ⟨z.1, z.2.1⟩)⟩
set_option maxHeartbeats 4000000 in
theorem sm_bkO {n f : Nat} {L : Nat → Prop} {u v : tm_SC} (hA : sm_A n u v) (hQ : sm_Q n L u v (f + 1)) (hF : f < 120) (h1 : sm_1 L u 0 (v.1 9) (v.1 10)) (h12 : v.1 12 = 0) :
    sm_O n u (cs_bkP u f (cs_xe u f) (cs_xc u f) (cs_xg u f) (cs_xa u f) (cs_xb u f)) (cs_bkX u f) (ms_bk v f (ms_xc v f) (ms_xg v f) (ms_xa v f) (ms_xb v f)) := by
  obtain ⟨e, he, h7, h6, hfr⟩ := hQ.2.1 f (Nat.lt_succ_self _)
  have hn := hA.1
  have ee : cs_xe u f = e := by unfold cs_xe; rw [h7]; exact nI_clamp (by omega)
  have l0 := h1.2.lt
  rw [ee]
  unfold sm_O cs_bkP cs_bkX
  rw [h6]
  rcases hfr with ⟨hk, h13, hw⟩ | ⟨hk, h2⟩
  · have hk3 : v.2.1 0 e = 3 ∨ v.2.1 0 e = 4 ∨ v.2.1 0 e = 5 := by
      rcases hk with q | q | q
      · exact Or.inl q.2
      · exact Or.inr (Or.inl q.2.1)
      · exact Or.inr (Or.inr q.2.1)
    obtain ⟨x0, x1, x2, x3, -, ⟨b, hb, eb⟩, hd⟩ := sm_k3 hA he hk3
    have eu : (u.2.1 2 e).toNatClampNeg = b := by rw [x2, eb]; exact nI_clamp (by omega)
    rw [eu]
    rcases hk with ⟨k, k0⟩ | ⟨k, k0, k14⟩ | ⟨k, k0, k14⟩
    · have em : ms_bk v f (ms_xc v f) (ms_xg v f) (ms_xa v f) (ms_xb v f) = ms_arg v f := by
        unfold ms_bk
        rw [if_neg (by rw [k]; decide), if_neg (by rw [k]; decide), if_neg (by rw [k]; decide)]
      have hp := sm_snd hA hQ hF h1 he h7 hw (Or.inl ⟨k, k0, rfl⟩) hb (h13.trans eb)
      have h12' : (ms_arg v f).1 12 = 0 := (ms_ei_f _ _ _ (by decide) (by decide)).trans h12
      rw [em, k]
      refine ⟨fun w h => ?_, fun E w h => ?_, Or.inl ⟨_, Or.inl ⟨rfl, rfl⟩⟩⟩
      · rcases h with ⟨-, rfl⟩ | ⟨q, -⟩ | ⟨q, -⟩ | ⟨q, -⟩ | ⟨q, -⟩
        · exact ⟨h12', L, f + 1, hF, hp⟩
        all_goals exact absurd q (by decide)
      · rcases h.2.2 with ⟨q, -⟩ | ⟨q, -⟩ | ⟨q, -⟩ <;> exact absurd q (by decide)
    · have em : ms_bk v f (ms_xc v f) (ms_xg v f) (ms_xa v f) (ms_xb v f) = ms_arg v f := by
        unfold ms_bk
        rw [if_neg (by rw [k]; decide), if_neg (by rw [k]; decide), if_neg (by rw [k]; decide)]
      have hp := sm_snd hA hQ hF h1 he h7 hw (Or.inr ⟨k, k0, k14, rfl⟩) hb (h13.trans eb)
      have h12' : (ms_arg v f).1 12 = 0 := (ms_ei_f _ _ _ (by decide) (by decide)).trans h12
      rw [em, k]
      refine ⟨fun w h => ?_, fun E w h => ?_, Or.inl ⟨_, Or.inr (Or.inl ⟨rfl, rfl⟩)⟩⟩
      · rcases h with ⟨q, -⟩ | ⟨-, rfl⟩ | ⟨q, -⟩ | ⟨q, -⟩ | ⟨q, -⟩
        · exact absurd q (by decide)
        · exact ⟨h12', L, f + 1, hF, hp⟩
        all_goals exact absurd q (by decide)
      · rcases h.2.2 with ⟨q, -⟩ | ⟨q, -⟩ | ⟨q, -⟩ <;> exact absurd q (by decide)
    · obtain ⟨d, hdn, ed⟩ := hd k0
      have eu3 : (u.2.1 3 e).toNatClampNeg = d := by rw [x3, ed]; exact nI_clamp (by omega)
      rw [eu3]
      by_cases hz : v.1 10 = 0
      · have a2 : u.2.2 (0 * 8 + 0) = (v.1 9).toInt64 := h1.2.elim (fun q => q.2) (fun q => absurd (hz.symm.trans q.1) (by decide))
        have em : ms_bk v f (ms_xc v f) (ms_xg v f) (ms_xa v f) (ms_xb v f) = ms_ei (tm_sf v 11 (nI f)) (1 + f) (if v.1 9 = 0 then d else b) := by
          unfold ms_bk ms_brx
          rw [if_neg (by rw [k]; decide), if_neg (by rw [k]; decide), if_pos k, if_neg (fun q => q hz), h13, k14, eb, ed, nI_clamp (by omega), nI_clamp (by omega)]
        have e9 : (u.2.2 (0 * 8 + 0)).toInt32 = v.1 9 := by rw [a2]; exact sm_i64 _
        rw [em, k, e9]
        have hbd : (if v.1 9 = 0 then d else b) < n := by split <;> assumption
        have hp := sm_bra hA hQ hF hw hbd
        have h12' : (ms_ei (tm_sf v 11 (nI f)) (1 + f) (if v.1 9 = 0 then d else b)).1 12 = 0 := (ms_ei_f _ _ _ (by decide) (by decide)).trans h12
        refine ⟨fun w h => ?_, fun E w h => ?_, Or.inl ⟨_, Or.inr (Or.inr (Or.inr (Or.inl ⟨rfl, l0.mpr hz, rfl⟩)))⟩⟩
        · rcases h with ⟨q, -⟩ | ⟨q, -⟩ | ⟨q, -⟩ | ⟨-, -, rfl⟩ | ⟨q, -⟩
          · exact absurd q (by decide)
          · exact absurd q (by decide)
          · exact absurd q (by decide)
          · exact ⟨h12', L, f, by omega, hp⟩
          · exact absurd q (by decide)
        · rcases h.2.2 with ⟨q, -⟩ | ⟨-, q⟩ | ⟨q, -⟩
          · exact absurd q (by decide)
          · exact absurd (l0.mpr hz) q
          · exact absurd q (by decide)
      · have em : ms_bk v f (ms_xc v f) (ms_xg v f) (ms_xa v f) (ms_xb v f) = tm_sf v 12 3 := by
          unfold ms_bk
          rw [if_neg (by rw [k]; decide), if_neg (by rw [k]; decide), if_pos k, if_pos hz]
        rw [em, k]
        refine ⟨fun w h => ?_, fun E w h => ⟨h.2.1, Or.inr (Or.inl ⟨h.1, rfl⟩)⟩, Or.inr ⟨_, _, rfl, rfl, Or.inr (Or.inl ⟨rfl, fun q => hz (l0.mp q)⟩)⟩⟩
        rcases h with ⟨q, -⟩ | ⟨q, -⟩ | ⟨q, -⟩ | ⟨-, q, -⟩ | ⟨q, -⟩
        · exact absurd q (by decide)
        · exact absurd q (by decide)
        · exact absurd q (by decide)
        · exact absurd (l0.mp q) hz
        · exact absurd q (by decide)
  · have l1 := h2.2.lt
    rcases hk with ⟨k, k0⟩ | ⟨k, k0, k14⟩
    · by_cases hz : v.2.1 16 f = 0
      · have em : ms_bk v f (ms_xc v f) (ms_xg v f) (ms_xa v f) (ms_xb v f) = tm_sf v 12 3 := by
          unfold ms_bk
          rw [if_pos k, if_pos hz]
        rw [em, k]
        refine ⟨fun w h => ?_, fun E w h => ⟨h.2.1, Or.inr (Or.inl ⟨h.1, rfl⟩)⟩, Or.inr ⟨_, _, rfl, rfl, Or.inr (Or.inr ⟨rfl, l1.mpr hz⟩)⟩⟩
        rcases h with ⟨q, -⟩ | ⟨q, -⟩ | ⟨q, -⟩ | ⟨q, -⟩ | ⟨-, q, -⟩
        · exact absurd q (by decide)
        · exact absurd q (by decide)
        · exact absurd q (by decide)
        · exact absurd q (by decide)
        · exact absurd (l1.mpr hz) q
      · obtain ⟨c, g, a, b, c1, c2, c3, c4, m1, m2, m3, m4, hc, hL, e15, ev, hg, g1, g2, ha, a1, a2, hb, b1, b2, hs⟩ := sm_xx hA hQ h2 hz
        have em : ms_bk v f (ms_xc v f) (ms_xg v f) (ms_xa v f) (ms_xb v f) = ms_apx v f c g a b := by
          unfold ms_bk
          rw [if_pos k, if_neg hz, m1, m2, m3, m4]
        have hp := sm_app hA hQ hF h1 hc hL (Or.inr ⟨rfl, c, hc, hL, rfl, ev⟩) hg g2 ha a2 hb hs
        have h12' : (ms_apx v f c g a b).1 12 = 0 := by
          unfold ms_apx ms_app
          rw [ms_ei_f _ _ _ (by decide) (by decide)]
          have h3 : (ms_ap1 (tm_sf v 11 (nI f)) c a (v.1 9) (v.1 10)).1 12 = 0 := by
            unfold ms_ap1
            rw [ms_give_f, ms_copy_f]; exact h12
          split
          · exact h3
          · rw [ms_give_f]; exact h3
        rw [em, k, c1, c2, c3, c4]
        refine ⟨fun w h => ?_, fun E w h => ?_, Or.inl ⟨_, Or.inr (Or.inr (Or.inr (Or.inr ⟨rfl, fun q => hz (l1.mp q), rfl⟩)))⟩⟩
        · rcases h with ⟨q, -⟩ | ⟨q, -⟩ | ⟨q, -⟩ | ⟨q, -⟩ | ⟨-, -, rfl⟩
          · exact absurd q (by decide)
          · exact absurd q (by decide)
          · exact absurd q (by decide)
          · exact absurd q (by decide)
          · exact ⟨h12', L, f, by omega, hp⟩
        · rcases h.2.2 with ⟨q, -⟩ | ⟨q, -⟩ | ⟨-, q⟩
          · exact absurd q (by decide)
          · exact absurd q (by decide)
          · exact absurd (l1.mp q) hz
    · by_cases hz : v.2.1 16 f = 0 ∧ v.1 10 = 0
      · have em : ms_bk v f (ms_xc v f) (ms_xg v f) (ms_xa v f) (ms_xb v f) = ms_opx v f := by
          unfold ms_bk
          rw [if_neg (by rw [k]; decide), if_pos k, if_neg (fun q => q.elim (fun y => y hz.1) (fun y => y hz.2))]
        have hp := sm_opr hA hQ hF h1 he k0 k14 h2 hz.1 hz.2
        rw [em, k]
        refine ⟨fun w h => ?_, fun E w h => ?_, Or.inl ⟨_, Or.inr (Or.inr (Or.inl ⟨rfl, l1.mpr hz.1, l0.mpr hz.2, rfl⟩))⟩⟩
        · rcases h with ⟨q, -⟩ | ⟨q, -⟩ | ⟨-, -, -, rfl⟩ | ⟨q, -⟩ | ⟨q, -⟩
          · exact absurd q (by decide)
          · exact absurd q (by decide)
          · exact ⟨h12, L, f, by omega, hp⟩
          · exact absurd q (by decide)
          · exact absurd q (by decide)
        · rcases h.2.2 with ⟨-, q⟩ | ⟨q, -⟩ | ⟨q, -⟩
          · exact absurd ⟨l1.mpr hz.1, l0.mpr hz.2⟩ q
          · exact absurd q (by decide)
          · exact absurd q (by decide)
      · have hz2 : ¬ v.2.1 16 f = 0 ∨ ¬ v.1 10 = 0 := by
          by_cases y : v.2.1 16 f = 0
          · exact Or.inr (fun x => hz ⟨y, x⟩)
          · exact Or.inl y
        have em : ms_bk v f (ms_xc v f) (ms_xg v f) (ms_xa v f) (ms_xb v f) = tm_sf v 12 3 := by
          unfold ms_bk
          rw [if_neg (by rw [k]; decide), if_pos k, if_pos hz2]
        rw [em, k]
        refine ⟨fun w h => ?_, fun E w h => ⟨h.2.1, Or.inr (Or.inl ⟨h.1, rfl⟩)⟩, Or.inr ⟨_, _, rfl, rfl, Or.inl ⟨rfl, fun q => hz ⟨l1.mp q.1, l0.mp q.2⟩⟩⟩⟩
        rcases h with ⟨q, -⟩ | ⟨q, -⟩ | ⟨-, q, q2, -⟩ | ⟨q, -⟩ | ⟨q, -⟩
        · exact absurd q (by decide)
        · exact absurd q (by decide)
        · exact absurd ⟨l1.mp q, l0.mp q2⟩ hz
        · exact absurd q (by decide)
        · exact absurd q (by decide)
-- what the contracts of a step ask
theorem sm_evI {n e F c : Nat} {L : Nat → Prop} {u v : tm_SC} (hA : sm_A n u v) (hb : ∀ m, tm_b1 (v.2.1 8 m)) (hQ : sm_Q n L u v F) (hF : F ≤ 120) (he : e < n) (h7 : u.1 7 = nI e) (h8 : v.1 8 = nI e) (hc : c < 120 ∧ v.2.1 10 c = 0 ∧ ∀ j, j < c → ¬ v.2.1 10 j = 0) : cs_EI u e F ∧ ms_EI v e F c := by
  have hn := hA.1
  obtain ⟨⟨x0, x4, x5, x2⟩, -, -, hX⟩ := hA.2.2.2 e he
  have hv : ∀ x, vp_in x n → vp_in x 100 := fun x h => tm_v100 h hn (by decide)
  refine ⟨⟨h7, by omega, hQ.1.1, hF, fun q => ?_, fun q0 q1 q2 => ?_⟩, h8, by omega, hQ.1.2, hF, hb, fun q => ?_, fun _ => ⟨by omega, hc.2⟩, fun q0 q1 q2 => ?_⟩
  · rw [x0] at q
    rcases hX with y | y | y | y
    · rw [q] at y; exact absurd y.1 (by decide)
    · rw [y.2.1]; exact y.2.2
    · rw [q] at y; exact absurd y.1 (by decide)
    · rw [q] at y; exact absurd y.1 (by decide)
  · rw [x0] at *
    rcases hX with y | y | y | y
    · exact absurd y.1 q0
    · exact absurd y.1 q1
    · exact absurd y.1 q2
    · refine ⟨by rw [y.2.1]; exact hv _ y.2.2.2.1, by rw [x2]; exact hv _ y.2.2.2.2.1, fun q3 q4 => ?_⟩
      rw [y.2.2.1]
      rcases y.1 with z | z | z
      · exact absurd z q3
      · exact absurd z q4
      · exact hv _ (y.2.2.2.2.2 z)
  · rcases hX with y | y | y | y
    · rw [q] at y; exact absurd y.1 (by decide)
    · exact y.2.2
    · rw [q] at y; exact absurd y.1 (by decide)
    · rw [q] at y; exact absurd y.1 (by decide)
  · rcases hX with y | y | y | y
    · exact absurd y.1 q0
    · exact absurd y.1 q1
    · exact absurd y.1 q2
    · refine ⟨hv _ y.2.2.2.1, hv _ y.2.2.2.2.1, fun q3 q4 => ?_⟩
      rcases y.1 with z | z | z
      · exact absurd z q3
      · exact absurd z q4
      · exact hv _ (y.2.2.2.2.2 z)
theorem sm_bkI {n f : Nat} {L : Nat → Prop} {u v : tm_SC} (hA : sm_A n u v) (hb : ∀ m, tm_b1 (v.2.1 8 m)) (hQ : sm_Q n L u v (f + 1)) (hF : f < 120) (h1 : sm_1 L u 0 (v.1 9) (v.1 10)) :
    cs_BI u f (cs_xe u f) (cs_xc u f) (cs_xg u f) (cs_xa u f) (cs_xb u f) ∧ ms_BI v f (ms_xc v f) (ms_xg v f) (ms_xa v f) (ms_xb v f) := by
  obtain ⟨e, he, h7, h6, hfr⟩ := hQ.2.1 f (Nat.lt_succ_self _)
  have hn := hA.1
  have ee : cs_xe u f = e := by unfold cs_xe; rw [h7]; exact nI_clamp (by omega)
  have hv : ∀ x, (∃ j, j < n ∧ x = nI j) → vp_in x 100 := fun x ⟨j, h1, h2⟩ => by rw [h2]; exact vp_in_nI (by omega) (by decide)
  rw [ee]
  unfold cs_BI ms_BI
  rw [h6]
  rcases hfr with ⟨hk, h13, hw⟩ | ⟨hk, h2⟩
  · have hk3 : v.2.1 0 e = 3 ∨ v.2.1 0 e = 4 ∨ v.2.1 0 e = 5 := by
      rcases hk with q | q | q
      · exact Or.inl q.2
      · exact Or.inr (Or.inl q.2.1)
      · exact Or.inr (Or.inr q.2.1)
    obtain ⟨x0, x1, x2, x3, -, hB, hd⟩ := sm_k3 hA he hk3
    have n1 : ¬ v.2.1 12 f = 1 := by rcases hk with q | q | q <;> rw [q.1] <;> decide
    have hin : v.2.1 12 f = 0 ∨ v.2.1 12 f = 1 ∨ v.2.1 12 f = 2 ∨ v.2.1 12 f = 3 ∨ v.2.1 12 f = 4 := by rcases hk with q | q | q <;> rw [q.1] <;> decide
    have h5 : v.2.1 12 f = 4 → v.2.1 0 e = 5 ∧ v.2.1 14 f = v.2.1 3 e := fun q => by
      rcases hk with y | y | y
      · rw [y.1] at q; exact absurd q (by decide)
      · rw [y.1] at q; exact absurd q (by decide)
      · exact y.2
    exact ⟨⟨hQ.1.1, hF, hin, h7, by omega, fun _ _ => by rw [x2]; exact hv _ hB, fun q => by rw [x3]; exact hv _ (hd (h5 q).1), fun q => absurd q n1⟩,
      hQ.1.2, hF, hb, h1.2.b, hin, fun q => absurd q n1, fun _ _ => by rw [h13]; exact hv _ hB, fun q => by rw [(h5 q).2]; exact hv _ (hd (h5 q).1)⟩
  · have hin : v.2.1 12 f = 0 ∨ v.2.1 12 f = 1 ∨ v.2.1 12 f = 2 ∨ v.2.1 12 f = 3 ∨ v.2.1 12 f = 4 := by rcases hk with q | q <;> rw [q.1] <;> decide
    have n13 : ¬ v.2.1 12 f = 1 → ¬ v.2.1 12 f = 3 → False := fun a b => hk.elim (fun q => a q.1) (fun q => b q.1)
    have n4 : ¬ v.2.1 12 f = 4 := by rcases hk with q | q <;> rw [q.1] <;> decide
    refine ⟨⟨hQ.1.1, hF, hin, h7, by omega, fun a b => (n13 a b).elim, fun q => absurd q n4, fun q hz => ?_⟩, hQ.1.2, hF, hb, h1.2.b, hin, fun q hz => ?_, fun a b => (n13 a b).elim, fun q => absurd q n4⟩
    · obtain ⟨c, g, a, b, c1, c2, c3, c4, m1, m2, m3, m4, hc, hL, e15, ev, hg, g1, g2, ha, a1, a2, hb, b1, b2, hs⟩ := sm_xx hA hQ h2 (fun y => hz (h2.2.lt.mpr y))
      rw [c1, c2, c3, c4]
      exact ⟨hc, by omega, ha, by omega, ev, g1, a1, b1, fun y => hs.elim (fun z => absurd z.1 y) (fun ⟨_, _, s, s1, s2, _⟩ => by rw [s2]; exact vp_in_nI s1 (by decide))⟩
    · obtain ⟨c, g, a, b, c1, c2, c3, c4, m1, m2, m3, m4, hc, hL, e15, ev, hg, g1, g2, ha, a1, a2, hb, b1, b2, hs⟩ := sm_xx hA hQ h2 hz
      rw [m1, m2, m3, m4]
      exact ⟨hc, by omega, ha, by omega, e15, g2, a2, b2, fun y => hs.elim (fun z => absurd z.2 y) (fun ⟨_, _, s, s1, _, s2⟩ => by rw [s2]; exact vp_in_nI s1 (by decide))⟩
