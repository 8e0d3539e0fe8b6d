/-! the tableau's measures -/
def TbO (r a c : Int32) : Prop := r.toInt ≤ a.toInt ∧ 0 ≤ a.toInt * (c.toInt + 1) ∧ a.toInt * (c.toInt + 1) ≤ 400
theorem TbO.of {r a c : Int32} {N C : Int} (ha : a.toInt = N) (hc : c.toInt = C) (h : N * (C + 1) ≤ 400) (hr : r.toInt ≤ a.toInt) (h0 : 0 ≤ N) (hC : 0 ≤ C) : TbO r a c := ⟨hr, by rw [ha, hc]; exact Int.mul_nonneg h0 (by omega), by rw [ha, hc]; exact h⟩
theorem cell_ix {r a c : Int32} {i j : Int} (h : TbO r a c) (hi0 : 0 ≤ i) (hi : i < a.toInt) (hj0 : 0 ≤ j) (hj : j ≤ c.toInt) : 0 ≤ i * (c.toInt + 1) + j ∧ i * (c.toInt + 1) + j < 400 := by
  have h1 : 0 ≤ i * (c.toInt + 1) := Int.mul_nonneg hi0 (by omega)
  have h2 : (i + 1) * (c.toInt + 1) ≤ a.toInt * (c.toInt + 1) := Int.mul_le_mul_of_nonneg_right (by omega) (by omega)
  rw [Int.add_mul, Int.one_mul] at h2
  have h3 := h.2.2
  omega
theorem idiv_ge {x y : Int32} {X Y n : Int} (hx : x.toInt = X) (hy : y.toInt = Y) (h1 : 0 ≤ X) (h2 : 0 < Y) (hn : n * Y ≤ X) : n ≤ (x / y).toInt := by
  obtain ⟨a, ha, rfl⟩ := nI_of (x := x) (nn_i hx h1)
  obtain ⟨b, hb, rfl⟩ := nI_of (x := y) (nn_i hy (by omega))
  rw [nI_toInt ha] at hx; rw [nI_toInt hb] at hy
  have h3 : a / b ≤ a := Nat.div_le_self a b
  rw [pk_div ha (by omega) hb, nI_toInt (by omega)]
  show n ≤ (((a / b : Nat)) : Int)
  rw [Int.natCast_ediv, hx, hy]
  exact Int.le_ediv_of_mul_le h2 hn
theorem cell_ix0 {r a c : Int32} {i : Int} (h : TbO r a c) (hi0 : 0 ≤ i) (hi : i < a.toInt) (hc : 0 ≤ c.toInt) : 0 ≤ i * (c.toInt + 1) + (0 : Int32).toInt ∧ i * (c.toInt + 1) + (0 : Int32).toInt < 400 := cell_ix h hi0 hi (by decide) (by rw [show (0 : Int32).toInt = 0 by decide]; exact hc)
/-- a row that has its place -/
def FitR (i c : Int) : Prop := 0 ≤ i * (c + 1) ∧ i * (c + 1) + c < 400
theorem FitR.of {r a c : Int32} {i : Int} (h : TbO r a c) (hi0 : 0 ≤ i) (hi : i < a.toInt) (hc : 0 ≤ c.toInt) : FitR i c.toInt := ⟨Int.mul_nonneg hi0 (by omega), (cell_ix h hi0 hi hc (Int.le_refl _)).2⟩
theorem FitR.ix {i j c : Int} (h : FitR i c) (hj0 : 0 ≤ j) (hj : j ≤ c) : 0 ≤ i * (c + 1) + j ∧ i * (c + 1) + j < 400 := by
  have h1 := h.1; have h2 := h.2; omega
theorem FitR.ix0 {i c : Int} (h : FitR i c) (hc : 0 ≤ c) : 0 ≤ i * (c + 1) + (0 : Int32).toInt ∧ i * (c + 1) + (0 : Int32).toInt < 400 := h.ix (by decide) (by rw [show (0 : Int32).toInt = 0 by decide]; exact hc)
theorem FitR.small {i c : Int} {I C : Nat} (hi0 : 0 ≤ i) (hi : i ≤ (I : Int)) (hc0 : 0 ≤ c) (hc : c ≤ (C : Int)) (h : I * (C + 1) + C < 400) : FitR i c := by
  refine ⟨Int.mul_nonneg hi0 (by omega), ?_⟩
  have h1 : i * (c + 1) ≤ (I : Int) * (c + 1) := Int.mul_le_mul_of_nonneg_right hi (by omega)
  have h2 : (I : Int) * (c + 1) ≤ (I : Int) * ((C : Int) + 1) := Int.mul_le_mul_of_nonneg_left (by omega) (by omega)
  have h3 : ((I * (C + 1) + C : Nat) : Int) < 400 := Int.ofNat_lt.mpr h
  rw [Int.natCast_add, Int.natCast_mul, Int.natCast_add] at h3
  have h4 : (I : Int) * ((C : Int) + ((1 : Nat) : Int)) = (I : Int) * ((C : Int) + 1) := rfl
  omega
