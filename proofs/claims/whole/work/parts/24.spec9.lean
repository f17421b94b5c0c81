theorem tm_rng {x : Int32} (h1 : ¬ x < 1) (h2 : x ≤ 500) : x = nI x.toNatClampNeg ∧ x.toNatClampNeg ≤ 500 := by
  have h : vp_in x 501 := by
    rw [vp_in_iff]
    rw [Int32.lt_iff_toInt_lt] at h1
    rw [Int32.le_iff_toInt_le] at h2
    have e1 : (1 : Int32).toInt = 1 := by decide
    have e5 : (500 : Int32).toInt = 500 := by decide
    omega
  have h3 := tm_vin h (by decide)
  exact ⟨h3.2, by omega⟩
theorem ms_rn_stop {T : tm_SC → Int32 → tm_SC → Prop} {u : tm_SC} (h : ¬ u.1 1 = 1) (d : Nat) : ∀ k, ms_rn T k d u d u
  | 0 => ⟨rfl, rfl⟩
  | _ + 1 => Or.inl ⟨h, rfl, rfl⟩
theorem ms_rn_bad {T : tm_SC → Int32 → tm_SC → Prop} {u v : tm_SC} {d k : Nat} {r : Int32} (h : u.1 1 = 1) (hk : 0 < k) (ht : T u r v) (hr : r = 0) : ms_rn T k d u d (tm_sf v 13 (v.1 12)) := by
  obtain ⟨j, rfl⟩ : ∃ j, k = j + 1 := ⟨k - 1, by omega⟩
  exact Or.inr ⟨h, r, v, ht, Or.inl ⟨hr, rfl, rfl⟩⟩
theorem ms_rn_good {T : tm_SC → Int32 → tm_SC → Prop} {u v w : tm_SC} {d d' n : Nat} {r : Int32} (h : u.1 1 = 1) (hk : d < n) (ht : T u r v) (hr : ¬ r = 0) (hn : ms_rn T (n - (d + 1)) (d + 1) (tm_sf v 13 0) d' w) : ms_rn T (n - d) d u d' w := by
  have e : n - d = (n - (d + 1)) + 1 := by omega
  rw [e]
  exact Or.inr ⟨h, r, v, ht, Or.inr ⟨hr, hn⟩⟩
