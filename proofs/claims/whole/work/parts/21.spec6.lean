theorem tm_ite1 {P : Prop} [Decidable P] : (if P then (1 : Int32) else 0) = 0 ↔ ¬ P := by
  by_cases h : P
  · rw [if_pos h]; exact ⟨fun q => absurd q (by decide), fun q => absurd h q⟩
  · rw [if_neg h]; exact ⟨fun _ => h, fun _ => rfl⟩
theorem tm_dec {n : Nat} (h : 0 < n) : nI n + Int32.ofInt (-1) = nI (n - 1) := sb_m1 h
theorem tm_le0 {n : Nat} (hn : n < 2 ^ 31) : nI n ≤ 0 ↔ n = 0 := by
  rw [Int32.le_iff_toInt_le, nI_toInt hn, Int32.toInt_zero]; omega
theorem ms_m1_a {u : tm_SC} (h : u.1 7 = 0) : ms_m1 u = ms_na (ms_m0 u) 0 0 8 := if_pos h
theorem ms_m1_b {u : tm_SC} (h : ¬ u.1 7 = 0) (h2 : u.1 10 = 0) : ms_m1 u = (ms_m0 u, 0) := (if_neg h).trans (if_pos h2)
theorem ms_m1_c {u : tm_SC} (h : ¬ u.1 7 = 0) (h2 : ¬ u.1 10 = 0) : ms_m1 u = (ms_noteU (ms_m0 u) (u.1 9).toNatClampNeg 0, ms_noteN (ms_m0 u) (u.1 9).toNatClampNeg 0) := (if_neg h).trans (if_neg h2)
def ms_gb (u : tm_SC) (x c : Int32) : tm_SC := tm_sf (tm_sf (tm_sf u 7 1) 9 x) 10 c
def ms_push (u : tm_SC) (F : Nat) (k x y m : Int32) : tm_SC := tm_sf (ms_copy (tm_sa (tm_sa (tm_sa u 12 F k) 13 F x) 14 F y) 0 (1 + F) m) 11 (nI (F + 1))
def ms_ei (u : tm_SC) (i e : Nat) : tm_SC := tm_sf (tm_sf (ms_copy u i 0 (u.2.1 4 e)) 7 0) 8 (nI e)
def ms_clo (u : tm_SC) (e c : Nat) : tm_SC := ms_gb (ms_copy (tm_sa u 9 c (nI e)) 0 (130 + c) (u.2.1 4 e)) (nI c) 1
def ms_ap1 (u : tm_SC) (c v : Nat) (x z : Int32) : tm_SC := ms_give (ms_copy u (130 + c) 0 255) 0 v x z
def ms_app (u : tm_SC) (c e v b : Nat) (x z : Int32) : tm_SC := ms_ei (if u.2.1 1 e < 0 then ms_ap1 u c v x z else ms_give (ms_ap1 u c v x z) 0 (u.2.1 1 e).toNatClampNeg (nI c) 1) 0 b
theorem ms_ap1_a (u : tm_SC) (c v : Nat) (x z : Int32) {j : Nat} (h0 : j ≠ 6) (h1 : j ≠ 7) (h2 : j ≠ 8) : (ms_ap1 u c v x z).2.1 j = u.2.1 j := by
  show va_up (va_up (va_up (ms_copy u (130 + c) 0 255).2.1 6 _) 7 _) 8 _ j = u.2.1 j
  rw [va_up_ne _ _ h2, va_up_ne _ _ h1, va_up_ne _ _ h0, ms_copy_a u _ _ _ h0 h1 h2]
theorem ms_give_a (u : tm_SC) (i p : Nat) (x z : Int32) {j : Nat} (h0 : j ≠ 6) (h1 : j ≠ 7) (h2 : j ≠ 8) : (ms_give u i p x z).2.1 j = u.2.1 j := by
  show va_up (va_up (va_up u.2.1 6 _) 7 _) 8 _ j = u.2.1 j
  rw [va_up_ne _ _ h2, va_up_ne _ _ h1, va_up_ne _ _ h0]
