theorem natI_of {x : Int32} (h : 0 ≤ x.toInt) : x = nI x.toInt.natAbs := by
  have h1 := Int32.toInt_lt x
  refine Int32.toInt_inj.mp ?_
  rw [nI_toInt (by omega)]; omega
theorem natI_neg {x : Int32} (h : x.toInt < 0) (h2 : -2147483648 < x.toInt) : -x = nI x.toInt.natAbs := by
  refine Int32.toInt_inj.mp ?_
  rw [nI_toInt (by omega), Int32.toInt_neg, Int.bmod_eq_of_le (by omega) (by omega)]; omega
theorem div9 {u h : Nat} (hh : 0 < h) (h9 : ¬ ((u / h : Nat) : Int) ≤ 9) : h * 10 ≤ u := by
  have h1 : 10 ≤ u / h := by omega
  have := (Nat.le_div_iff_mul_le hh).mp h1
  omega
