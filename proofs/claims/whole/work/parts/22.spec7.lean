theorem ms_push_a (u : tm_SC) (F : Nat) (k x y m : Int32) {j : Nat} (h0 : j ≠ 6) (h1 : j ≠ 7) (h2 : j ≠ 8) (h3 : j ≠ 12) (h4 : j ≠ 13) (h5 : j ≠ 14) : (ms_push u F k x y m).2.1 j = u.2.1 j := by
  show (ms_copy _ 0 (1 + F) m).2.1 j = u.2.1 j
  rw [ms_copy_a _ _ _ _ h0 h1 h2]
  show va_up (va_up (va_up u.2.1 12 _) 13 _) 14 _ j = u.2.1 j
  rw [va_up_ne _ _ h5, va_up_ne _ _ h4, va_up_ne _ _ h3]
theorem tm_swo5 {x : Int32} (h0 : ¬ x = 0) (h1 : ¬ x = 1) (h2 : ¬ x = 2) (h3 : ¬ x = 3) (h4 : ¬ x = 4) : x.toInt < 0 ∨ 4 < x.toInt := by
  have e0 : ¬ x.toInt = 0 := fun q => h0 (Int32.toInt_inj.mp q)
  have e1 : ¬ x.toInt = 1 := fun q => h1 (Int32.toInt_inj.mp q)
  have e2 : ¬ x.toInt = 2 := fun q => h2 (Int32.toInt_inj.mp q)
  have e3 : ¬ x.toInt = 3 := fun q => h3 (Int32.toInt_inj.mp q)
  have e4 : ¬ x.toInt = 4 := fun q => h4 (Int32.toInt_inj.mp q)
  omega
theorem tm_swo6 {x : Int32} (h0 : ¬ x = 0) (h1 : ¬ x = 1) (h2 : ¬ x = 2) (h3 : ¬ x = 3) (h4 : ¬ x = 4) (h5 : ¬ x = 5) : x.toInt < 0 ∨ 5 < x.toInt := by
  have e0 : ¬ x.toInt = 0 := fun q => h0 (Int32.toInt_inj.mp q)
  have e1 : ¬ x.toInt = 1 := fun q => h1 (Int32.toInt_inj.mp q)
  have e2 : ¬ x.toInt = 2 := fun q => h2 (Int32.toInt_inj.mp q)
  have e3 : ¬ x.toInt = 3 := fun q => h3 (Int32.toInt_inj.mp q)
  have e4 : ¬ x.toInt = 4 := fun q => h4 (Int32.toInt_inj.mp q)
  have e5 : ¬ x.toInt = 5 := fun q => h5 (Int32.toInt_inj.mp q)
  omega
/-- a step of evaluation: c is the closure's place -/
def ms_evl (u : tm_SC) (e F c : Nat) : tm_SC :=
  if u.2.1 0 e = 0 then ms_gb u (u.2.1 1 e) 0
  else if u.2.1 0 e = 1 then (if ms_bt (u.2.1 6 0) (u.2.1 1 e) = 0 then tm_sf u 12 2 else ms_gb u (u.2.1 7 (u.2.1 1 e).toNatClampNeg) (u.2.1 8 (u.2.1 1 e).toNatClampNeg))
  else if u.2.1 0 e = 2 then ms_clo u e c
  else if u.2.1 0 e = 3 then ms_ei (ms_push u F 0 (u.2.1 2 e) 0 (u.2.1 4 (u.2.1 2 e).toNatClampNeg)) 0 (u.2.1 1 e).toNatClampNeg
  else if u.2.1 0 e = 4 then ms_ei (ms_push u F 2 (u.2.1 2 e) (u.2.1 3 e) (u.2.1 4 (u.2.1 2 e).toNatClampNeg)) 0 (u.2.1 1 e).toNatClampNeg
  else ms_ei (ms_push u F 4 (u.2.1 2 e) (u.2.1 3 e) (u.2.1 4 (u.2.1 2 e).toNatClampNeg ||| u.2.1 4 (u.2.1 3 e).toNatClampNeg)) 0 (u.2.1 1 e).toNatClampNeg
/-- what evaluation asks -/
def ms_EI (u : tm_SC) (e F c : Nat) : Prop :=
  u.1 8 = nI e ∧ e < 100 ∧ u.1 11 = nI F ∧ F ≤ 120 ∧ (∀ m, tm_b1 (u.2.1 8 m)) ∧ (u.2.1 0 e = 1 → vp_in (u.2.1 1 e) 8) ∧ (u.2.1 0 e = 2 → c < 130 ∧ u.2.1 10 c = 0 ∧ ∀ j, j < c → ¬ u.2.1 10 j = 0) ∧
  (¬ u.2.1 0 e = 0 → ¬ u.2.1 0 e = 1 → ¬ u.2.1 0 e = 2 → vp_in (u.2.1 1 e) 100 ∧ vp_in (u.2.1 2 e) 100 ∧ (¬ u.2.1 0 e = 3 → ¬ u.2.1 0 e = 4 → vp_in (u.2.1 3 e) 100))
theorem tm_v100 {x : Int32} {n N : Nat} (h : vp_in x n) (hn : n ≤ N) (hN : N < 2 ^ 31) : vp_in x N := by
  obtain ⟨j, h1, h2⟩ := vp_in_of h (by omega)
  rw [h2]; exact vp_in_nI (by omega) hN
def ms_arg (u : tm_SC) (f : Nat) : tm_SC := ms_ei (tm_sa (tm_sa (tm_sa u 12 f (u.2.1 12 f + 1)) 15 f (u.1 9)) 16 f (u.1 10)) (1 + f) (u.2.1 13 f).toNatClampNeg
def ms_opx (u : tm_SC) (f : Nat) : tm_SC := ms_gb (tm_sf u 11 (nI f)) (cs_opd (u.2.1 14 f) (u.2.1 15 f) (u.1 9)) 0
def ms_brx (u : tm_SC) (f : Nat) : tm_SC := ms_ei (tm_sf u 11 (nI f)) (1 + f) (if u.1 9 = 0 then (u.2.1 14 f).toNatClampNeg else (u.2.1 13 f).toNatClampNeg)
def ms_apx (u : tm_SC) (f c e v b : Nat) : tm_SC := ms_app (tm_sf u 11 (nI f)) c e v b (u.1 9) (u.1 10)
def ms_bk (u : tm_SC) (f c e v b : Nat) : tm_SC :=
  if u.2.1 12 f = 1 then (if u.2.1 16 f = 0 then tm_sf u 12 3 else ms_apx u f c e v b)
  else if u.2.1 12 f = 3 then (if ¬ u.2.1 16 f = 0 ∨ ¬ u.1 10 = 0 then tm_sf u 12 3 else ms_opx u f)
  else if u.2.1 12 f = 4 then (if ¬ u.1 10 = 0 then tm_sf u 12 3 else ms_brx u f)
  else ms_arg u f
def ms_BI (u : tm_SC) (f c e v b : Nat) : Prop :=
  u.1 11 = nI (f + 1) ∧ f < 120 ∧ (∀ m, tm_b1 (u.2.1 8 m)) ∧ tm_b1 (u.1 10) ∧ (u.2.1 12 f = 0 ∨ u.2.1 12 f = 1 ∨ u.2.1 12 f = 2 ∨ u.2.1 12 f = 3 ∨ u.2.1 12 f = 4) ∧
  (u.2.1 12 f = 1 → ¬ u.2.1 16 f = 0 → c < 120 ∧ e < 100 ∧ v < 8 ∧ b < 100 ∧ u.2.1 15 f = nI c ∧ u.2.1 9 c = nI e ∧ u.2.1 2 e = nI v ∧ u.2.1 3 e = nI b ∧ (¬ u.2.1 1 e < 0 → vp_in (u.2.1 1 e) 8)) ∧
  (¬ u.2.1 12 f = 1 → ¬ u.2.1 12 f = 3 → vp_in (u.2.1 13 f) 100) ∧ (u.2.1 12 f = 4 → vp_in (u.2.1 14 f) 100)
theorem ms_push_b {u : tm_SC} {F : Nat} {k x y w : Int32} (h : ∀ m, tm_b1 (u.2.1 8 m)) (m : Nat) : tm_b1 ((ms_push u F k x y w).2.1 8 m) := by
  have h2 : tm_b1 ((ms_copy (tm_sa (tm_sa (tm_sa u 12 F k) 13 F x) 14 F y) 0 (1 + F) w).2.1 8 m) := ms_copy_b (u := tm_sa (tm_sa (tm_sa u 12 F k) 13 F x) 14 F y) h m
  unfold ms_push tm_sf
  exact h2
