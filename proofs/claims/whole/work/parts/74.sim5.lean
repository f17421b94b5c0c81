/-! both sides side by side: the other actions -/
theorem sm_i64 (x : Int32) : x.toInt64.toInt32 = x := by simp
section SMB
variable {n F f : Nat} {L : Nat → Prop} {u v : tm_SC}
theorem sm_W.cpC {i j : Nat} (h : sm_W L u v i j) (i' : Nat) : sm_W L (cs_copy u i i') v i' j := by
  obtain ⟨m, h1, h2, h3, h4⟩ := h
  obtain ⟨c1, c2⟩ := sm_cpC u i i'
  exact ⟨m, h1, c1.trans h2, h3, fun k hk q => by rw [c2 k hk]; exact h4 k hk q⟩
theorem sm_snd {x : Int32} {e : Nat} (hA : sm_A n u v) (h : sm_Q n L u v (f + 1)) (hF : f < 120) (h1 : sm_1 L u 0 (v.1 9) (v.1 10)) (he : e < n) (h7 : u.2.1 7 f = nI e) (hw : sm_W L u v (1 + f) (1 + f))
    (hk : (v.2.1 12 f = 0 ∧ v.2.1 0 e = 3 ∧ x = 1) ∨ (v.2.1 12 f = 2 ∧ v.2.1 0 e = 4 ∧ v.2.1 14 f = v.2.1 3 e ∧ x = 3)) {b : Nat} (hb : b < n) (h13 : v.2.1 13 f = nI b) :
    sm_P n L (cs_snd u f b x) (ms_arg v f) (f + 1) := by
  have k1 : sm_kC 0 (1 + f) f 999 u (tm_sa (cs_set1 (cs_copy u (1 + f) 0) (1 + f) (u.2.2 (0 * 8 + 0))) 6 f x) := ((sm_kC.rf.copy (Or.inl rfl)).set1 _ (Or.inr rfl)).sa _ (Or.inl ⟨Or.inl rfl, rfl⟩)
  have k2 : sm_kM 0 0 f 999 v (tm_sa (tm_sa (tm_sa v 12 f (v.2.1 12 f + 1)) 15 f (v.1 9)) 16 f (v.1 10)) := ((sm_kM.rf.sa _ (Or.inl ⟨by decide, rfl⟩)).sa _ (Or.inl ⟨by decide, rfl⟩)).sa _ (Or.inl ⟨by decide, rfl⟩)
  have k3 : sm_kC (1 + f) (1 + f) f 999 (cs_copy u (1 + f) 0) (tm_sa (cs_set1 (cs_copy u (1 + f) 0) (1 + f) (u.2.2 (0 * 8 + 0))) 6 f x) := (sm_kC.rf.set1 _ (Or.inr rfl)).sa _ (Or.inl ⟨Or.inl rfl, rfl⟩)
  have hx : x = v.2.1 12 f + 1 := by
    rcases hk with q | q
    · rw [q.1, q.2.2]; rfl
    · rw [q.1, q.2.2.2]; rfl
  have hq : sm_Q n L (tm_sa (cs_set1 (cs_copy u (1 + f) 0) (1 + f) (u.2.2 (0 * 8 + 0))) 6 f x) (tm_sa (tm_sa (tm_sa v 12 f (v.2.1 12 f + 1)) 15 f (v.1 9)) 16 f (v.1 10)) (f + 1) := by
    refine ⟨h.1, fun i hi => ?_, fun c hc hL => (h.2.2 c hc hL).keep k1 k2 (by omega) (by omega)⟩
    by_cases ef : i = f
    · subst ef
      refine ⟨e, he, h7, ?_, Or.inr ⟨?_, ?_⟩⟩
      · show upd (u.2.1 6) i x i = upd (v.2.1 12) i (v.2.1 12 i + 1) i
        rw [pk_us, pk_us]; exact hx
      · show ((upd (v.2.1 12) i (v.2.1 12 i + 1) i = 1 ∧ v.2.1 0 e = 3) ∨ (upd (v.2.1 12) i (v.2.1 12 i + 1) i = 3 ∧ v.2.1 0 e = 4 ∧ v.2.1 14 i = v.2.1 3 e))
        rw [pk_us]
        rcases hk with q | q
        · exact Or.inl ⟨by rw [q.1]; rfl, q.2.1⟩
        · exact Or.inr ⟨by rw [q.1]; rfl, q.2.1, q.2.2.1⟩
      · obtain ⟨s1, s2⟩ := sm_st1 (cs_copy u (1 + i) 0) (1 + i) (u.2.2 (0 * 8 + 0))
        refine ⟨s1, ?_⟩
        show sm_V L ((cs_set1 (cs_copy u (1 + i) 0) (1 + i) (u.2.2 (0 * 8 + 0))).2.2 ((1 + i) * 8 + 0)) (upd (v.2.1 15) i (v.1 9) i) (upd (v.2.1 16) i (v.1 10) i)
        rw [s2, pk_us, pk_us]; exact h1.2
    · exact (h.2.1 i (by omega)).keep k1 k2 (by omega) (by omega)
  have hw2 : sm_W L (tm_sa (cs_set1 (cs_copy u (1 + f) 0) (1 + f) (u.2.2 (0 * 8 + 0))) 6 f x) (tm_sa (tm_sa (tm_sa v 12 f (v.2.1 12 f + 1)) 15 f (v.1 9)) 16 f (v.1 10)) 0 (1 + f) := (hw.cpC 0).keep k3 k2 (by omega) (by omega)
  unfold cs_snd ms_arg
  rw [h13, nI_clamp (by have := hA.1; omega)]
  exact sm_go (hA.keep k1 k2) hq (by omega) hw2 hb
theorem sm_opr {e : Nat} (hA : sm_A n u v) (h : sm_Q n L u v (f + 1)) (hF : f < 120) (h1 : sm_1 L u 0 (v.1 9) (v.1 10)) (he : e < n) (h0 : v.2.1 0 e = 4) (h14 : v.2.1 14 f = v.2.1 3 e) (h2 : sm_1 L u (1 + f) (v.2.1 15 f) (v.2.1 16 f)) (hi : v.2.1 16 f = 0) (hj : v.1 10 = 0) :
    sm_P n L (cs_opx u f e) (ms_opx v f) f := by
  have e3 : u.2.1 3 e = v.2.1 14 f := by
    rw [h14]
    obtain ⟨-, -, -, q⟩ := hA.2.2.2 e he
    rw [h0] at q
    rcases q with q | q | q | q
    · exact absurd q.1 (by decide)
    · exact absurd q.1 (by decide)
    · exact absurd q.1 (by decide)
    · exact q.2.2.1
  have a1 : u.2.2 ((1 + f) * 8 + 0) = (v.2.1 15 f).toInt64 := h2.2.elim (fun q => q.2) (fun q => absurd (hi.symm.trans q.1) (by decide))
  have a2 : u.2.2 (0 * 8 + 0) = (v.1 9).toInt64 := h1.2.elim (fun q => q.2) (fun q => absurd (hj.symm.trans q.1) (by decide))
  unfold cs_opx ms_opx
  rw [a1, a2, sm_i64, sm_i64, e3]
  exact sm_rtn (sm_drop h hF) (by omega) (Or.inl ⟨rfl, rfl⟩)
theorem sm_bra {b : Nat} (hA : sm_A n u v) (h : sm_Q n L u v (f + 1)) (hF : f < 120) (hw : sm_W L u v (1 + f) (1 + f)) (hb : b < n) : sm_P n L (cs_brx u f b) (ms_ei (tm_sf v 11 (nI f)) (1 + f) b) f := by
  have k1 : sm_kC 0 0 999 999 (tm_sf u 0 (nI f)) (cs_copy (tm_sf u 0 (nI f)) (1 + f) 0) := sm_kC.rf.copy (Or.inl rfl)
  have hA2 : sm_A n (cs_copy (tm_sf u 0 (nI f)) (1 + f) 0) (tm_sf v 11 (nI f)) := (hA.keep (u' := tm_sf u 0 (nI f)) (v' := tm_sf v 11 (nI f)) (r := 0) (r' := 0) (g := 999) (z := 999) (q := 0) (q' := 0) (g' := 999) (z' := 999) (sm_kC.rf.sf _ (by decide)) (sm_kM.rf.sf _ (by decide) (by decide))).keep k1 (q := 0) (q' := 0) (g' := 999) (z' := 999) sm_kM.rf
  exact sm_go hA2 ((sm_drop h hF).keep (by omega) k1 sm_kM.rf rfl rfl) (by omega) (sm_W.cpC (u := tm_sf u 0 (nI f)) (v := tm_sf v 11 (nI f)) hw 0) hb
theorem sm_255 {m : Nat} (h : m < 256) : nI m &&& 255 = nI m := by
  rw [show (255 : Int32) = nI 255 from rfl, sm_and]
  exact congrArg nI (by rw [show (255 : Nat) = 2 ^ 8 - 1 from rfl, Nat.and_two_pow_sub_one_eq_mod, Nat.mod_eq_of_lt h])
theorem sm_W.cpM {i j : Nat} (h : sm_W L u v i j) (i' j' : Nat) : sm_W L (cs_copy u i i') (ms_copy v j j' 255) i' j' := by
  obtain ⟨m, h1, h2, h3, h4⟩ := h
  obtain ⟨c1, c2⟩ := sm_cpC u i i'
  obtain ⟨d1, d2⟩ := sm_copyM v j j' 255
  exact ⟨m, h1, c1.trans h2, by rw [d1, h3, sm_255 h1], fun k hk q => by rw [c2 k hk, (d2 k hk).1, (d2 k hk).2]; exact h4 k hk q⟩
theorem ms_give_f (w : tm_SC) (i p : Nat) (x c : Int32) : (ms_give w i p x c).1 = w.1 := rfl
theorem cs_give_f (w : tm_SC) (i p : Nat) (x : Int64) : (cs_give w i p x).1 = w.1 := rfl
theorem sm_app {c g a b : Nat} (hA : sm_A n u v) (h : sm_Q n L u v (f + 1)) (hF : f < 120) (h1 : sm_1 L u 0 (v.1 9) (v.1 10)) (hc : c < 120) (hL : L c) (h2 : sm_V L (u.2.2 ((1 + f) * 8 + 0)) (nI c) 1) (hg : g < n) (hg9 : v.2.1 9 c = nI g)
    (ha : a < 8) (ha2 : v.2.1 2 g = nI a) (hb : b < n) (hs : (u.2.1 3 g = -1 ∧ v.2.1 1 g < 0) ∨ (¬ u.2.1 3 g = -1 ∧ ¬ v.2.1 1 g < 0 ∧ ∃ s, s < 8 ∧ u.2.1 3 g = nI s ∧ v.2.1 1 g = nI s)) :
    sm_P n L (cs_apx u f c g a b) (ms_apx v f c g a b) f := by
  have hd := sm_drop h hF
  have hcl : sm_W L (tm_sf u 0 (nI f)) (tm_sf v 11 (nI f)) (121 + c) (130 + c) := (h.2.2 c hc hL).elim (fun e q => q.2.2.2.2)
  have hA0 : sm_A n (tm_sf u 0 (nI f)) (tm_sf v 11 (nI f)) := hA.keep (r := 0) (r' := 0) (g := 999) (z := 999) (q := 0) (q' := 0) (g' := 999) (z' := 999) (sm_kC.rf.sf _ (by decide)) (sm_kM.rf.sf _ (by decide) (by decide))
  have w1 : sm_W L (cs_ap1 u f c a) (ms_ap1 (tm_sf v 11 (nI f)) c a (v.1 9) (v.1 10)) 0 0 := (hcl.cpM 0 0).give ha h1.2
  have k1 : sm_kC 0 0 999 999 (tm_sf u 0 (nI f)) (cs_ap1 u f c a) := (sm_kC.rf.copy (Or.inl rfl)).give _ ha (Or.inl rfl)
  have k2 : sm_kM 0 0 999 999 (tm_sf v 11 (nI f)) (ms_ap1 (tm_sf v 11 (nI f)) c a (v.1 9) (v.1 10)) := (sm_kM.rf.copy _ (Or.inl rfl)).give _ _ ha (Or.inl rfl)
  have e11 : (ms_ap1 (tm_sf v 11 (nI f)) c a (v.1 9) (v.1 10)).1 = (tm_sf v 11 (nI f)).1 := by
    unfold ms_ap1
    rw [ms_give_f, ms_copy_f]
  have q1 := hd.keep (by omega) k1 k2 rfl (congrFun e11 11)
  have hA1 := hA0.keep k1 k2
  unfold cs_apx ms_apx ms_app
  rcases hs with ⟨s1, s2⟩ | ⟨s1, s2, s, hs8, s3, s4⟩
  · rw [if_pos s1, if_pos (show (tm_sf v 11 (nI f)).2.1 1 g < 0 from s2)]
    exact sm_go hA1 q1 (by omega) w1 hb
  · rw [if_neg s1, if_neg (show ¬ (tm_sf v 11 (nI f)).2.1 1 g < 0 from s2)]
    have es : ((tm_sf v 11 (nI f)).2.1 1 g).toNatClampNeg = s := by
      rw [show (tm_sf v 11 (nI f)).2.1 1 g = nI s from s4]; exact nI_clamp (by omega)
    rw [es, s3, nI_clamp (by omega)]
    have k3 : sm_kC 0 0 999 999 (cs_ap1 u f c a) (cs_give (cs_ap1 u f c a) 0 s (u.2.2 ((1 + f) * 8 + 0))) := sm_kC.rf.give _ hs8 (Or.inl rfl)
    have k4 : sm_kM 0 0 999 999 (ms_ap1 (tm_sf v 11 (nI f)) c a (v.1 9) (v.1 10)) (ms_give (ms_ap1 (tm_sf v 11 (nI f)) c a (v.1 9) (v.1 10)) 0 s (nI c) 1) := sm_kM.rf.give _ _ hs8 (Or.inl rfl)
    exact sm_go (hA1.keep k3 k4) (q1.keep (by omega) k3 k4 rfl rfl) (by omega) (w1.give hs8 h2) hb
theorem sm_clo2 {e k : Nat} (hA : sm_A n u v) (h : sm_Q n L u v F) (hF : F ≤ 120) (hw : sm_W L u v 0 0) (he : e < n) (h0 : v.2.1 0 e = 2) (hk : k < 120) : sm_P n (fun c => L c ∨ c = k) (cs_clo u e k) (ms_clo v e k) F := by
  have k1 : sm_kC (121 + k) (121 + k) 999 k u (cs_copyT (tm_sa u 9 k (nI e)) 0 (121 + k) (u.2.1 4 e)) := (sm_kC.rf.sa _ (Or.inr (Or.inl ⟨rfl, rfl⟩))).copyT _ (Or.inl rfl)
  have k2 : sm_kM (130 + k) (130 + k) 999 k v (ms_copy (tm_sa v 9 k (nI e)) 0 (130 + k) (v.2.1 4 e)) := (sm_kM.rf.sa _ (Or.inr (Or.inl ⟨rfl, rfl⟩))).copy _ (Or.inl rfl)
  have hm : ∀ c, c < 120 → L c → (fun c => L c ∨ c = k) c := fun c _ q => Or.inl q
  obtain ⟨⟨-, e4, -⟩, hmk, -⟩ := hA.2.2.2 e he
  have p2 : ∀ j, j ≠ 6 → j ≠ 7 → j ≠ 8 → (ms_copy (tm_sa v 9 k (nI e)) 0 (130 + k) (v.2.1 4 e)).2.1 j = (tm_sa v 9 k (nI e)).2.1 j := fun j h1 h2 h3 => ms_copy_a _ _ _ _ h1 h2 h3
  have hq : sm_Q n (fun c => L c ∨ c = k) (cs_copyT (tm_sa u 9 k (nI e)) 0 (121 + k) (u.2.1 4 e)) (ms_copy (tm_sa v 9 k (nI e)) 0 (130 + k) (v.2.1 4 e)) F := by
    refine ⟨⟨h.1.1, ?_⟩, fun f hf => ((h.2.1 f hf).mono hm).keep k1 k2 (by omega) (by omega), fun c hc hL => ?_⟩
    · rw [ms_copy_f]; exact h.1.2
    · by_cases ec : c = k
      · subst ec
        refine ⟨e, he, ?_, ?_, ?_, ?_⟩
        · show upd (u.2.1 9) c (nI e) c = nI e
          rw [pk_us]
        · rw [p2 9 (by decide) (by decide) (by decide)]
          show upd (v.2.1 9) c (nI e) c = nI e
          rw [pk_us]
        · rw [p2 0 (by decide) (by decide) (by decide)]; exact h0
        · have hr := sm_cpT (tm_sa u 9 c (nI e)) 0 (121 + c) (u.2.1 4 e)
          rw [e4] at hr ⊢
          exact sm_W.rr (u := tm_sa u 9 c (nI e)) (v := tm_sa v 9 c (nI e)) (hw.mono hm) hr (sm_copyM _ _ _ _) hmk
      · exact ((h.2.2 c hc (hL.elim id (fun q => absurd q ec))).mono hm).keep k1 k2 (by omega) (by omega)
  exact sm_rtn hq hF (Or.inr ⟨rfl, k, hk, Or.inr rfl, rfl, rfl⟩)
end SMB
/-- other scalars don't matter -/
theorem sm_P.sc {n F : Nat} {L : Nat → Prop} {u v u' v' : tm_SC} (h : sm_P n L u v F) (e2 : u'.2 = u.2) (f2 : v'.2 = v.2) (a : ∀ j, j = 0 ∨ j = 6 ∨ j = 7 → u'.1 j = u.1 j) (b : ∀ j, 7 ≤ j → j ≤ 11 → v'.1 j = v.1 j) : sm_P n L u' v' F := by
  unfold sm_P sm_Q sm_md sm_Fr sm_Cl sm_W sm_1
  rw [e2, f2, a 0 (by decide), a 6 (by decide), a 7 (by decide), b 7 (by decide) (by decide), b 8 (by decide) (by decide), b 9 (by decide) (by decide), b 10 (by decide) (by decide), b 11 (by decide) (by decide)]
  exact h
theorem sm_P.re {n F : Nat} {L L' : Nat → Prop} {w v m m' : tm_SC} (h : sm_P n L w v F) (hM : sm_M L' m m' F) (a : cs_eq w m) (b : ms_eq v m') (hL : ∀ c, c < 120 → L' c → L c) : sm_P n L' m m' F := by
  have b12 := b.1 12 (by decide) (by decide)
  have b13 := b.1 13 (by decide) (by decide)
  have b14 := b.1 14 (by decide) (by decide)
  have b0 := b.1 0 (by decide) (by decide)
  have b2 := b.1 2 (by decide) (by decide)
  have b3 := b.1 3 (by decide) (by decide)
  refine ⟨⟨⟨hM.1, hM.2.1⟩, fun f hf => ?_, fun c hc hl => ?_⟩, ?_⟩
  · obtain ⟨e, h1, h2, h3, h4⟩ := h.1.2.1 f hf
    refine ⟨e, h1, by rw [a.1 7 (by decide) (by decide)]; exact h2, by rw [a.1 6 (by decide) (by decide), b12]; exact h3, ?_⟩
    have hm := hM.2.2.2.1 f hf
    rw [b12] at hm
    rw [b12, b13, b14, b0, b2, b3]
    rcases h4 with y | y
    · refine Or.inl ⟨y.1, y.2.1, ?_⟩
      rcases hm with z | z
      · exact z.2
      · rcases y.1 with x | x | x
        · rw [x.1] at z; exact absurd z.1 (by decide)
        · rw [x.1] at z; exact absurd z.1 (by decide)
        · rw [x.1] at z; exact absurd z.1 (by decide)
    · refine Or.inr ⟨y.1, ?_⟩
      rcases hm with z | z
      · exact absurd (y.1.imp (fun q => q.1) (fun q => q.1)) z.1
      · exact z.2
  · obtain ⟨e, h1, h2, h3, h4, h5⟩ := h.1.2.2 c hc (hL c hc hl)
    exact ⟨e, h1, by rw [a.1 9 (by decide) (by decide)]; exact h2, by rw [b.1 9 (by decide) (by decide)]; exact h3, by rw [b0]; exact h4, hM.2.2.2.2 c hc hl⟩
  · have e7 := b.2 7 (by decide) (by decide)
    rcases h.2 with ⟨h1, h2, ⟨e, h3, h4, h5⟩, h6⟩ | ⟨h1, h2, h3⟩
    · refine Or.inl ⟨(a.2.2 6 (by decide) (by decide)).trans h1, e7.trans h2, ⟨e, h3, (a.2.2 7 (by decide) (by decide)).trans h4, (b.2 8 (by decide) (by decide)).trans h5⟩, ?_⟩
      rcases hM.2.2.1 with z | z
      · exact z.2
      · rw [e7, h2] at z; exact absurd z.1 (by decide)
    · refine Or.inr ⟨(a.2.2 6 (by decide) (by decide)).trans h1, e7.trans h2, ?_⟩
      rcases hM.2.2.1 with z | z
      · rw [e7, h2] at z; exact absurd z.1 (by decide)
      · exact z.2
