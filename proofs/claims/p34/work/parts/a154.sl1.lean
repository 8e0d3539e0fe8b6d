/-! the solver's measures -/
theorem mul40 {X C : Int} (h0 : 0 ≤ X) (h1 : X ≤ 40) (h2 : 0 ≤ C) (h3 : C ≤ 8) : X * (C + 1) ≤ 400 := by
  have h : X * (C + 1) ≤ X * 9 := Int.mul_le_mul_of_nonneg_left (by omega) h0
  omega
theorem ix_small {i j c : Int} (h0 : 0 ≤ i) (h1 : i ≤ 39) (h2 : 0 ≤ c) (h3 : c ≤ 8) (h4 : 0 ≤ j) (h5 : j ≤ 40) : 0 ≤ i * (c + 1) + j ∧ i * (c + 1) + j < 400 := by
  have h : i * (c + 1) ≤ i * 9 := Int.mul_le_mul_of_nonneg_left (by omega) h0
  have h9 : 0 ≤ i * (c + 1) := Int.mul_nonneg h0 (by omega)
  omega
theorem idiv_mul {x y : Int32} {X Y : Int} (hx : x.toInt = X) (hy : y.toInt = Y) (h1 : 0 ≤ X) : 0 < Y → 0 ≤ (x / y).toInt ∧ (x / y).toInt * Y ≤ X := fun h2 => by
  obtain ⟨a, ha, rfl⟩ := nI_of (x := x) (nn_i hx h1)
  obtain ⟨b, hb, rfl⟩ := nI_of (x := y) (nn_i hy (by omega))
  rw [nI_toInt ha] at hx; rw [nI_toInt hb] at hy
  have h3 : a / b ≤ a := Nat.div_le_self a b
  have h4 : a / b * b ≤ a := Nat.div_mul_le_self a b
  rw [pk_div ha (by omega) hb]
  generalize a / b = d at h3 h4 ⊢
  rw [nI_toInt (by omega)]
  refine ⟨by omega, ?_⟩
  rw [← hy, ← hx]
  exact_mod_cast h4
theorem cnt_ix {i j w c : Int} (h : 0 < w → 0 ≤ c ∧ c * w ≤ 200000) (hi0 : 0 ≤ i) (hi : i < w) (hj0 : 0 ≤ j) (hj : j < c) : 0 ≤ i * c + j ∧ i * c + j ≤ 200000 := by
  obtain ⟨h1, h2⟩ := h (by omega)
  have h3 : 0 ≤ i * c := Int.mul_nonneg hi0 h1
  have h4 : (i + 1) * c ≤ w * c := Int.mul_le_mul_of_nonneg_right (by omega) h1
  rw [Int.add_mul, Int.one_mul, Int.mul_comm w c] at h4
  omega
theorem cnt_ix0 {i w c : Int} (h : 0 < w → 0 ≤ c ∧ c * w ≤ 200000) (hi0 : 0 ≤ i) (hi : i < w) : 0 ≤ i * c ∧ i * c ≤ 200000 := by
  obtain ⟨h1, h2⟩ := h (by omega)
  have h3 : 0 ≤ i * c := Int.mul_nonneg hi0 h1
  have h4 : (i + 1) * c ≤ w * c := Int.mul_le_mul_of_nonneg_right (by omega) h1
  rw [Int.add_mul, Int.one_mul, Int.mul_comm w c] at h4
  omega
