def ms_ok (m : tm_SC) : tm_SC := tm_sf (tm_sf (tm_sf m 12 0) 3 (m.1 3 + 1)) 4 (ms_gr (m.1 4) (m.1 5))
/-- the end of a step whose action left w -/
def ms_fin (w : tm_SC) (F : Nat) (L : Nat → Prop) (r : Int32) (v : tm_SC) : Prop :=
  (¬ w.1 12 = 0 ∧ r = 0 ∧ v = tm_sf w 1 3) ∨
  (w.1 12 = 0 ∧ w.1 1 = 1 ∧ ∃ m, ms_MP w F L m ∧ ((m.1 2 < m.1 5 ∧ r = 0 ∧ v = tm_sf (tm_sf m 12 4) 1 3) ∨ (¬ m.1 2 < m.1 5 ∧ r = 1 ∧ v = ms_ok m))) ∨
  (w.1 12 = 0 ∧ ¬ w.1 1 = 1 ∧ r = 1 ∧ v = tm_sf (tm_sf w 3 (w.1 3 + 1)) 4 (w.1 4))
/-- steps: T is what one step may do; k of n are left, d are done -/
def ms_rn (T : tm_SC → Int32 → tm_SC → Prop) : Nat → Nat → tm_SC → Nat → tm_SC → Prop
  | 0, d, u, d', v => d' = d ∧ v = u
  | k + 1, d, u, d', v => (¬ u.1 1 = 1 ∧ d' = d ∧ v = u) ∨ (u.1 1 = 1 ∧ ∃ r u1, T u r u1 ∧ ((r = 0 ∧ d' = d ∧ v = tm_sf u1 13 (u1.1 12)) ∨ (¬ r = 0 ∧ ms_rn T k (d + 1) (tm_sf u1 13 0) d' v)))
def ms_abt (u : tm_SC) (x : Int32) : Int32 :=
  if x = 0 then u.1 1 else if x = 1 then u.1 3 else if x = 2 then (if u.1 1 = 1 then u.1 5 else 0) else if x = 3 then u.1 4 else if x = 4 then (if u.1 1 = 1 then u.1 11 else 0) else if x = 5 then (if u.1 1 = 1 then u.1 6 else 0) else -1
def ms_bgn (u : tm_SC) (e : Nat) (x : Int32) : tm_SC := tm_sf (tm_sa (tm_sf (tm_sf (tm_sf (tm_sf (tm_sf (tm_sf u 13 0) 1 1) 2 x) 3 0) 7 0) 8 (nI e)) 6 0 0) 11 0
theorem ms_bgn_MI (u : tm_SC) (e : Nat) (x : Int32) : ms_MI (ms_bgn u e x) 0 (fun _ => False) := by
  refine ⟨rfl, by decide, fun _ k hk h => ?_, fun h => absurd rfl h, fun f hf => absurd hf (Nat.not_lt_zero _), fun _ _ q => q.elim⟩
  exfalso
  have h2 : ms_bt 0 (nI k) = 1 := h
  have h3 : ∀ k, k < 8 → ¬ ms_bt 0 (nI k) = 1 := by decide +kernel
  exact h3 k hk h2
