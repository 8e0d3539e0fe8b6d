theorem in_lt {x y : Int32} {n : Nat} (h0 : ¬ x < 0) (h1 : x < y) (hy : y.toInt ≤ (n : Int)) : vp_in x n := by
  rw [vp_in_iff]
  rw [Int32.lt_iff_toInt_lt] at h0 h1
  have h2 : (0 : Int32).toInt = 0 := by decide
  rw [h2] at h0
  omega
