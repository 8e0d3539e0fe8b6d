theorem if_congr {α : Type} {b c : Prop} [Decidable b] [Decidable c] {x y u v : α} (hc : b ↔ c) (ht : x = u) (he : y = v) : (if b then x else y) = (if c then u else v) := by
  by_cases h : b
  · rw [if_pos h, if_pos (hc.mp h)]; exact ht
  · rw [if_neg h, if_neg (fun h2 => h (hc.mpr h2))]; exact he
def sgI (x : Int) : Int := if x < 0 then -1 else 1
theorem sgI_or (x : Int) : sgI x = 1 ∨ sgI x = -1 := by unfold sgI; split <;> simp
theorem sgI_pos {x : Int} (h : x ≠ 0) : 0 < sgI x * x := by unfold sgI; split <;> omega
theorem sgI_n {x : Int} (h : x < 0) : sgI x = -1 := if_pos h
theorem sgI_p {x : Int} (h : ¬ x < 0) : sgI x = 1 := if_neg h
theorem nv_in (r c : Nat) (g : Int) (t : Nat → Nat → Int) (D : Int) {i j : Nat} (hi : i ≠ r) (hj : j ≠ c) : nvT r c g t D i j = g * ((t i j * t r c + -1 * (t i c * t r j)).tdiv D) := by
  unfold nvT; rw [if_neg hi, if_neg hj]; congr 2; omega
theorem nv_col (r c : Nat) (g : Int) (t : Nat → Nat → Int) (D : Int) {i : Nat} (hi : i ≠ r) : nvT r c g t D i c = -(g * t i c) := by
  unfold nvT; rw [if_neg hi, if_pos rfl]
theorem nv_row (r c : Nat) (g : Int) (t : Nat → Nat → Int) (D : Int) {j : Nat} (hj : j ≠ c) : nvT r c g t D r j = g * t r j := by
  unfold nvT; rw [if_pos rfl, if_neg hj]
theorem nv_piv (r c : Nat) (g : Int) (t : Nat → Nat → Int) (D : Int) : nvT r c g t D r c = g * D := by
  unfold nvT; rw [if_pos rfl, if_pos rfl]
theorem div64 {x y : Int64} (hx : -9223372036854775808 < x.toInt) (hy : 0 < y.toInt) : (x / y).toInt = x.toInt.tdiv y.toInt ∧ -9223372036854775808 < (x / y).toInt := by
  have h1 : (x.toInt.tdiv y.toInt).natAbs ≤ x.toInt.natAbs := by rw [Int.natAbs_tdiv]; exact Nat.div_le_self _ _
  have h2 := Int64.toInt_lt x
  have h3 : (x / y).toInt = x.toInt.tdiv y.toInt := by
    rw [Int64.toInt_div]; exact Int.bmod_eq_of_le (by omega) (by omega)
  exact ⟨h3, by rw [h3]; omega⟩
theorem one64 (x : Int64) : ((1 : Int64) * x).toInt = x.toInt := by rw [Int64.one_mul]
theorem mone64 {x : Int64} (hx : -9223372036854775808 < x.toInt) : ((-1 : Int64) * x).toInt = -x.toInt := by
  have h2 := Int64.toInt_lt x
  rw [show ((-1 : Int64) * x) = -x from by rw [Int64.neg_mul, Int64.one_mul], Int64.toInt_neg]
  exact Int.bmod_eq_of_le (by omega) (by omega)
theorem sub64 {x y : Int64} (hx : -4611686018427387904 ≤ x.toInt ∧ x.toInt ≤ 4611686018427387903) (hy : -4611686018427387903 ≤ y.toInt ∧ y.toInt ≤ 4611686018427387904) : (x - y).toInt = x.toInt - y.toInt := by
  rw [Int64.toInt_sub]; exact Int.bmod_eq_of_le (by omega) (by omega)
theorem ne0_64 {x : Int64} (h : 0 < x.toInt) : ¬ x = 0 := fun e => by rw [e] at h; exact absurd h (by decide)
theorem add_bd {x y : Int} (hx : x.natAbs < 2 ^ 588) (hy : y.natAbs < 2 ^ 588) {h : Int} (hh : h = 1 ∨ h = -1) : (x + h * y).natAbs < 2 ^ 616 := by
  have h1 : (x + h * y).natAbs ≤ x.natAbs + y.natAbs := by rcases hh with e | e <;> rw [e] <;> omega
  have h2 : (2 : Nat) ^ 588 + 2 ^ 588 ≤ 2 ^ 616 := by rw [← Nat.two_mul, Nat.mul_comm, ← Nat.pow_succ]; exact Nat.pow_le_pow_right (by decide) (by decide)
  omega
theorem mulabs_bd {x y : Int} {k : Nat} (hx : x.natAbs < 2 ^ k) (hy : y.natAbs < 2 ^ k) (h : k ≤ 294) : (x * y).natAbs < 2 ^ 588 := by rw [Int.natAbs_mul]; exact mul_bd hx hy h
