theorem gcd_step (x y : Int) : Int.gcd y (x.tmod y) = Int.gcd x y := by
  unfold Int.gcd
  rw [Int.natAbs_tmod, Nat.gcd_comm, ← Nat.gcd_rec, Nat.gcd_comm]
theorem tmod_nn {x : Int} (h : 0 ≤ x) (y : Int) : 0 ≤ x.tmod y := Int.tmod_nonneg y h
theorem tmod_abs {x y : Int} (h : y ≠ 0) : (x.tmod y).natAbs < y.natAbs := by
  rw [Int.natAbs_tmod]; exact Nat.mod_lt _ (by omega)
theorem gcd_end {x y : Int} (h : y ≤ 0) (hx : 0 ≤ x) (hy : 0 ≤ y) : x = ((Int.gcd x y : Nat) : Int) := by
  have e : y = 0 := by omega
  rw [e, Int.gcd_zero_right]; omega
theorem gcd_ne {x y : Int} (h : x ≠ 0 ∨ y ≠ 0) : ((Int.gcd x y : Nat) : Int) ≠ 0 := fun e => by
  have e2 : Int.gcd x y = 0 := by omega
  have := Int.gcd_eq_zero_iff.mp e2
  omega
theorem sh_le (x y : Int) : (x.tdiv y).natAbs ≤ x.natAbs := by
  rw [Int.natAbs_tdiv]; exact Nat.div_le_self _ _
theorem tdiv_pos {x g : Int} (hx : 0 < x) (hg : 0 < g) (h : g ≤ x) : 0 < x.tdiv g := by
  rw [Int.tdiv_eq_ediv_of_nonneg (by omega)]
  have := (Int.le_ediv_iff_mul_le hg (a := 1) (b := x)).mpr (by omega)
  omega
theorem gcd_le {x y : Int} (hy : 0 < y) : ((Int.gcd x y : Nat) : Int) ≤ y := Int.le_of_dvd hy (Int.gcd_dvd_right x y)
theorem gcd_pos {x y : Int} (hy : 0 < y) : 0 < ((Int.gcd x y : Nat) : Int) := by
  have := gcd_ne (x := x) (y := y) (Or.inr (by omega)); omega
