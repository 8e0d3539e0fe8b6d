theorem and255 (v : Int32) : ∃ n : Nat, n < 256 ∧ v &&& 255 = nI n := by
  refine ⟨v.toBitVec.toNat % 256, by omega, ?_⟩
  apply Int32.toBitVec_inj.mp
  apply BitVec.eq_of_toNat_eq
  have h2 : (nI (v.toBitVec.toNat % 256)).toBitVec.toNat = v.toBitVec.toNat % 256 := Nat.mod_eq_of_lt (by omega)
  rw [Int32.toBitVec_and, BitVec.toNat_and, h2]
  exact Nat.and_two_pow_sub_one_eq_mod _ 8
/-- the byte at a place of the tape, or -1 behind its end -/
def bA (tp : Nat) (f : Nat → Int32) (k : Nat) : Int32 := if k < tp then f k &&& 255 else -1
theorem bA_in (tp : Nat) (f : Nat → Int32) (k : Nat) : (k < tp ∧ 0 ≤ (bA tp f k).toInt ∧ (bA tp f k).toInt ≤ 255) ∨ (tp ≤ k ∧ (bA tp f k).toInt = -1) := by
  unfold bA
  by_cases h : k < tp
  · rw [if_pos h]
    obtain ⟨n, h1, e⟩ := and255 (f k)
    rw [e, nI_toInt (by omega)]
    exact Or.inl ⟨h, by omega, by omega⟩
  · rw [if_neg h]; exact Or.inr ⟨by omega, by decide⟩
def p10 (k : Nat) : Int := match k with
  | 0 => 1 | 1 => 10 | 2 => 100 | 3 => 1000 | 4 => 10000 | 5 => 100000 | _ => 1000000
theorem p10_step : ∀ k, k < 6 → 10 * p10 k = p10 (k + 1) := by decide
theorem p10_le (k : Nat) : p10 k ≤ 1000000 := by unfold p10; split <;> decide
theorem p10_big {k : Nat} (h : 6 ≤ k) : p10 k = 1000000 := by unfold p10; split <;> first | omega | rfl
theorem p10_one (k : Nat) : 1 ≤ p10 k := by unfold p10; split <;> decide
theorem mul10 {x : Int32} (h : 0 ≤ x.toInt ∧ x.toInt < 1000000) : ((10 : Int32) * x).toInt = 10 * x.toInt := by
  rw [Int32.toInt_mul]
  have e : (10 : Int32).toInt = 10 := by decide
  rw [e]
  exact Int.bmod_eq_of_le (by omega) (by omega)
