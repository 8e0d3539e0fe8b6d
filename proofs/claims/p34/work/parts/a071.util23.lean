theorem div64i {x y : Int64} (hx : -4611686018427387904 < x.toInt ∧ x.toInt < 4611686018427387904) (hy : 0 < y.toInt) : (x / y).toInt = x.toInt.tdiv y.toInt ∧ (x / y).toInt.natAbs ≤ x.toInt.natAbs := by
  have h := div64 (x := x) (y := y) (by omega) hy
  exact ⟨h.1, by rw [h.1]; exact sh_le _ _⟩
theorem l2i_small {x : Int64} (h : -1000000 ≤ x.toInt ∧ x.toInt ≤ 1000000) : x.toInt32.toInt = x.toInt := by
  rw [Int64.toInt_toInt32]; exact Int.bmod_eq_of_le (by omega) (by omega)
theorem tdiv_ne {x g : Int} (hx : x ≠ 0) (hg : 0 < g) (h : g ∣ x) : x.tdiv g ≠ 0 := fun e => by
  have := Int.tdiv_mul_cancel h
  rw [e, Int.zero_mul] at this; exact hx this.symm
