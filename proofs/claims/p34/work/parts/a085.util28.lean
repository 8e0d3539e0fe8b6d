theorem Bg.lt {f : Nat → Int32} {m : Nat → Int} (h : Bg f m) {q : Nat} (hq : q < 1100) : (m q).natAbs < 2 ^ 616 := by
  obtain ⟨n, h1, h2, h3, h4, h5, h6⟩ := h q hq
  rw [h5]
  have h7 := lv28_lt h3
  exact Nat.lt_of_lt_of_le h7 (Nat.pow_le_pow_right (by decide) (show 28 * n ≤ 616 by omega))
theorem dig_le {n : Nat} {x : Nat} (hx : 1 ≤ x) (h : x * 8 ^ n < 2 ^ 616) : n < 206 := by
  rcases Nat.lt_or_ge n 206 with h1 | h1
  · exact h1
  · exfalso
    have h2 : 8 ^ 206 ≤ 8 ^ n := Nat.pow_le_pow_right (by decide) h1
    have h3 : 1 * 8 ^ n ≤ x * 8 ^ n := Nat.mul_le_mul_right _ hx
    have h4 : (2 : Nat) ^ 616 ≤ 8 ^ 206 := by decide +kernel
    omega
theorem dig_step {x : Int} {n : Nat} (h : x.natAbs * 8 ^ n < 2 ^ 616) : (x.tdiv 10).natAbs * 8 ^ (n + 1) < 2 ^ 616 := by
  refine Nat.lt_of_le_of_lt ?_ h
  have e : (x.tdiv 10).natAbs = x.natAbs / 10 := Int.natAbs_tdiv x 10
  have e2 : x.natAbs / 10 * (8 ^ n * 8) = x.natAbs / 10 * 8 * 8 ^ n := by rw [Nat.mul_comm (8 ^ n) 8, Nat.mul_assoc]
  rw [e, Nat.pow_succ, e2]
  exact Nat.mul_le_mul_right _ (by omega)
/-- what end does -/
def EndO (tp : Nat) (n : Int32) : Prop := 0 ≤ n.toInt ∧ n.toInt ≤ 20 ∧ (tp : Int) + n.toInt ≤ 4000
