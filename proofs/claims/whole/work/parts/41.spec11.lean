def cs_clo (u : tm_SC) (e k : Nat) : tm_SC := cs_ret (cs_copyT (tm_sa u 9 k (nI e)) 0 (121 + k) (u.2.1 4 e)) (4294967296 + (nI k).toInt64)
def cs_fst (u : tm_SC) (F e a : Nat) (k m : Int32) : tm_SC := cs_ev (tm_sf (cs_copyT (tm_sa (tm_sa u 6 F k) 7 F (nI e)) 0 (1 + F) m) 0 (nI (F + 1))) a
def cs_opx (u : tm_SC) (f e : Nat) : tm_SC := cs_ret (tm_sf u 0 (nI f)) (cs_opd (u.2.1 3 e) (u.2.2 ((1 + f) * 8 + 0)).toInt32 (u.2.2 (0 * 8 + 0)).toInt32).toInt64
def cs_brx (u : tm_SC) (f b : Nat) : tm_SC := cs_ev (cs_copy (tm_sf u 0 (nI f)) (1 + f) 0) b
def cs_ap1 (u : tm_SC) (f c v : Nat) : tm_SC := cs_give (cs_copy (tm_sf u 0 (nI f)) (121 + c) 0) 0 v (u.2.2 (0 * 8 + 0))
def cs_apx (u : tm_SC) (f c e v b : Nat) : tm_SC := cs_ev (if u.2.1 3 e = -1 then cs_ap1 u f c v else cs_give (cs_ap1 u f c v) 0 (u.2.1 3 e).toNatClampNeg (u.2.2 ((1 + f) * 8 + 0))) b
/-- what evaluation asks of the class's state -/
def cs_EI (u : tm_SC) (e F : Nat) : Prop :=
  u.1 7 = nI e ∧ e < 100 ∧ u.1 0 = nI F ∧ F ≤ 120 ∧ (u.2.1 0 e = 1 → vp_in (u.2.1 1 e) 8) ∧
  (¬ u.2.1 0 e = 0 → ¬ u.2.1 0 e = 1 → ¬ u.2.1 0 e = 2 → vp_in (u.2.1 1 e) 100 ∧ vp_in (u.2.1 2 e) 100 ∧ (¬ u.2.1 0 e = 3 → ¬ u.2.1 0 e = 4 → vp_in (u.2.1 3 e) 100))
def cs_kd (k : Int32) : Int32 := if k = 3 then 0 else if k = 4 then 2 else 4
def cs_mk (u : tm_SC) (e : Nat) : Int32 := if u.2.1 0 e = 3 ∨ u.2.1 0 e = 4 then u.2.1 4 (u.2.1 2 e).toNatClampNeg else u.2.1 4 (u.2.1 2 e).toNatClampNeg ||| u.2.1 4 (u.2.1 3 e).toNatClampNeg
def cs_evP (u : tm_SC) (e F : Nat) (v : tm_SC) : Prop :=
  (u.2.1 0 e = 0 ∧ v = cs_ret u (u.2.1 1 e).toInt64) ∨ (u.2.1 0 e = 1 ∧ ¬ cs_bt (u.2.1 8 0) (u.2.1 1 e) = 0 ∧ v = cs_ret u (u.2.2 (0 * 8 + (u.2.1 1 e).toNatClampNeg))) ∨
  (u.2.1 0 e = 2 ∧ ∃ k, k < 120 ∧ u.2.1 10 k = 0 ∧ (∀ j, j < k → ¬ u.2.1 10 j = 0) ∧ v = cs_clo u e k) ∨
  (¬ u.2.1 0 e = 0 ∧ ¬ u.2.1 0 e = 1 ∧ ¬ u.2.1 0 e = 2 ∧ F < 120 ∧ v = cs_fst u F e (u.2.1 1 e).toNatClampNeg (cs_kd (u.2.1 0 e)) (cs_mk u e))
def cs_evX (u : tm_SC) (e F : Nat) (E : String) (v : tm_SC) : Prop :=
  v = tm_sf u 1 3 ∧ ((E = "java/util/NoSuchElementException" ∧ u.2.1 0 e = 1 ∧ cs_bt (u.2.1 8 0) (u.2.1 1 e) = 0) ∨ (E = "java/lang/IllegalStateException" ∧ u.2.1 0 e = 2 ∧ ∀ j, j < 120 → ¬ u.2.1 10 j = 0) ∨
    (E = "java/lang/IllegalStateException" ∧ ¬ u.2.1 0 e = 0 ∧ ¬ u.2.1 0 e = 1 ∧ ¬ u.2.1 0 e = 2 ∧ F = 120))
/-- what a return to a frame asks -/
def cs_BI (u : tm_SC) (f e c g v b : Nat) : Prop :=
  u.1 0 = nI (f + 1) ∧ f < 120 ∧ (u.2.1 6 f = 0 ∨ u.2.1 6 f = 1 ∨ u.2.1 6 f = 2 ∨ u.2.1 6 f = 3 ∨ u.2.1 6 f = 4) ∧ u.2.1 7 f = nI e ∧ e < 100 ∧
  (¬ u.2.1 6 f = 1 → ¬ u.2.1 6 f = 3 → vp_in (u.2.1 2 e) 100) ∧ (u.2.1 6 f = 4 → vp_in (u.2.1 3 e) 100) ∧
  (u.2.1 6 f = 1 → ¬ u.2.2 ((1 + f) * 8 + 0) < 4294967296 → c < 120 ∧ g < 100 ∧ v < 8 ∧ b < 100 ∧ u.2.2 ((1 + f) * 8 + 0) = 4294967296 + (nI c).toInt64 ∧ u.2.1 9 c = nI g ∧ u.2.1 2 g = nI v ∧ u.2.1 1 g = nI b ∧ (¬ u.2.1 3 g = -1 → vp_in (u.2.1 3 g) 8))
def cs_bkP (u : tm_SC) (f e c g v b : Nat) (w : tm_SC) : Prop :=
  (u.2.1 6 f = 0 ∧ w = cs_snd u f (u.2.1 2 e).toNatClampNeg 1) ∨ (u.2.1 6 f = 2 ∧ w = cs_snd u f (u.2.1 2 e).toNatClampNeg 3) ∨
  (u.2.1 6 f = 3 ∧ u.2.2 ((1 + f) * 8 + 0) < 4294967296 ∧ u.2.2 (0 * 8 + 0) < 4294967296 ∧ w = cs_opx u f e) ∨
  (u.2.1 6 f = 4 ∧ u.2.2 (0 * 8 + 0) < 4294967296 ∧ w = cs_brx u f (if (u.2.2 (0 * 8 + 0)).toInt32 = 0 then (u.2.1 3 e).toNatClampNeg else (u.2.1 2 e).toNatClampNeg)) ∨
  (u.2.1 6 f = 1 ∧ ¬ u.2.2 ((1 + f) * 8 + 0) < 4294967296 ∧ w = cs_apx u f c g v b)
def cs_bkX (u : tm_SC) (f : Nat) (E : String) (w : tm_SC) : Prop :=
  E = "java/lang/UnsupportedOperationException" ∧ w = tm_sf u 1 3 ∧ ((u.2.1 6 f = 3 ∧ ¬ (u.2.2 ((1 + f) * 8 + 0) < 4294967296 ∧ u.2.2 (0 * 8 + 0) < 4294967296)) ∨ (u.2.1 6 f = 4 ∧ ¬ u.2.2 (0 * 8 + 0) < 4294967296) ∨ (u.2.1 6 f = 1 ∧ u.2.2 ((1 + f) * 8 + 0) < 4294967296))
