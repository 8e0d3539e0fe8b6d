/-! the prover's measures -/
theorem ix9 {i j c : Int} (h0 : 0 ≤ i) (h1 : i ≤ 39) (h2 : 0 ≤ c) (h3 : c ≤ 9) (h4 : 0 ≤ j) (h5 : j ≤ 9) : 0 ≤ i * (c + 1) + j ∧ i * (c + 1) + j < 400 := by
  have h : i * (c + 1) ≤ i * 10 := Int.mul_le_mul_of_nonneg_left (by omega) h0
  have h9 : 0 ≤ i * (c + 1) := Int.mul_nonneg h0 (by omega)
  omega
/-- the needs of the columns are needs -/
def NdOc (f : Nat → Int32) (c n : Int) : Prop := ∀ j : Nat, (j : Int) < c → 0 ≤ (f j).toInt ∧ (f j).toInt < n
theorem NdOc.push {f f' : Nat → Int32} {c c' x : Int32} {n : Int} (h : NdOc f c.toInt n) (hf : f' = upd f c.toNatClampNeg x) (hx : 0 ≤ x.toInt) (hx2 : x.toInt < n) (h0 : 0 ≤ c.toInt) (hc : c'.toInt = c.toInt + 1) : NdOc f' c'.toInt n := fun q hq => by
  have hc2 : c.toNatClampNeg = c.toInt.toNat := rfl
  rw [hf, hc2]
  by_cases e : q = c.toInt.toNat
  · rw [e, pk_us]; exact ⟨hx, hx2⟩
  · rw [pk_un e]; exact h q (by omega)
theorem NdOc.at {f : Nat → Int32} {c n : Int} {i : Int32} (h : NdOc f c n) (h0 : 0 ≤ i.toInt) (h1 : i.toInt < c) : 0 ≤ (f i.toNatClampNeg).toInt ∧ (f i.toNatClampNeg).toInt < n := h i.toInt.toNat (by omega)
theorem NdOc.zero {f : Nat → Int32} {n : Int} : NdOc f (0 : Int32).toInt n := fun q hq => by have h9 : (0 : Int32).toInt = 0 := (by decide); omega
theorem mul9 {X C : Int} (h0 : 0 ≤ X) (h1 : X ≤ 9) (h2 : 0 ≤ C) (h3 : C ≤ 40) : (X + (0 : Int32).toInt) * (C + 1) ≤ 400 := by
  rw [show (0 : Int32).toInt = 0 by decide, Int.add_zero]
  have h : X * (C + 1) ≤ X * 41 := Int.mul_le_mul_of_nonneg_left (by omega) h0
  omega
theorem mul49 {X C : Int} (h0 : 0 ≤ X) (h1 : X ≤ 40) (h2 : 0 ≤ C) (h3 : C ≤ 9) : (X + (0 : Int32).toInt) * (C + 1) ≤ 400 := by
  rw [show (0 : Int32).toInt = 0 by decide, Int.add_zero]
  have h : X * (C + 1) ≤ X * 10 := Int.mul_le_mul_of_nonneg_left (by omega) h0
  omega
