/-- the model's numbers are in their bounds: F56 low, F57 high, F60 ways' numbers, F63 goals' tops, F64 goals' unders, F70 values -/
def MdlB (F : Nat → Nat → Int32) (gn : Nat) : Prop :=
  (∀ k, k < 9 → -999 ≤ (F 56 k).toInt ∧ (F 56 k).toInt ≤ 999) ∧ (∀ k, k < 9 → -999 ≤ (F 57 k).toInt ∧ (F 57 k).toInt ≤ 999) ∧
  (∀ q, q < 39 → -99999 ≤ (F 60 (9 * q)).toInt ∧ (F 60 (9 * q)).toInt ≤ 99999) ∧ (∀ q k, q < 39 → k < 8 → -99 ≤ (F 60 (9 * q + 1 + k)).toInt ∧ (F 60 (9 * q + 1 + k)).toInt ≤ 99) ∧
  (∀ g, g < gn → (-9999 ≤ (F 63 (9 * g)).toInt ∧ (F 63 (9 * g)).toInt ≤ 9999) ∧ 1 ≤ (F 64 (9 * g)).toInt ∧ (F 64 (9 * g)).toInt ≤ 9999) ∧
  (∀ g k, g < gn → k < 8 → (-99 ≤ (F 63 (9 * g + 1 + k)).toInt ∧ (F 63 (9 * g + 1 + k)).toInt ≤ 99) ∧ 1 ≤ (F 64 (9 * g + 1 + k)).toInt ∧ (F 64 (9 * g + 1 + k)).toInt ≤ 99) ∧
  (∀ k, k < 9 → -999 ≤ (F 70 k).toInt ∧ (F 70 k).toInt ≤ 999)
/-- the lines of a case, as they are laid -/
def BldL (C R : Nat) (m : Nat → Int) (f5 : Nat → Int32) : Prop := ∀ i, i < R → f5 i = nI (C + i) ∧ (∀ j, j < C - 1 → (m (30 + i * (C + 1) + j)).natAbs ≤ 99) ∧ m (30 + i * (C + 1) + (C - 1)) = -1 ∧ (m (30 + i * (C + 1) + C)).natAbs ≤ 1000000
theorem BldL.more {C R : Nat} {m m2 : Nat → Int} {f5 f52 : Nat → Int32} (h : BldL C R m f5) (hf : ∀ i, i < R → f52 i = f5 i) (e : ∀ p, p < 30 + R * (C + 1) → m2 p = m p) (hC : 0 < C) (h1 : f52 R = nI (C + R)) (h2 : ∀ j, j < C - 1 → (m2 (30 + R * (C + 1) + j)).natAbs ≤ 99) (h3 : m2 (30 + R * (C + 1) + (C - 1)) = -1) (h4 : (m2 (30 + R * (C + 1) + C)).natAbs ≤ 1000000) : BldL C (R + 1) m2 f52 := by
  intro i hi
  by_cases ei : i = R
  · subst ei; exact ⟨h1, h2, h3, h4⟩
  · have hiR : i < R := by omega
    obtain ⟨k1, k2, k3, k4⟩ := h i hiR
    have hp : ∀ j, j ≤ C → m2 (30 + i * (C + 1) + j) = m (30 + i * (C + 1) + j) := fun j hj => e _ (by have := pl_lt hiR hj; omega)
    exact ⟨by rw [hf i hiR]; exact k1, fun j hj => by rw [hp j (by omega)]; exact k2 j hj, by rw [hp _ (by omega)]; exact k3, by rw [hp _ (Nat.le_refl _)]; exact k4⟩
theorem mulI {x y : Int32} : (x.toInt64 * y.toInt64).toInt = x.toInt * y.toInt := by
  have h1 := Int32.toInt_lt x
  have h2 := Int32.le_toInt x
  have h3 := Int32.toInt_lt y
  have h4 := Int32.le_toInt y
  rw [Int64.toInt_mul, Int32.toInt_toInt64, Int32.toInt_toInt64]
  have h5 : (x.toInt * y.toInt).natAbs ≤ 2147483648 * 2147483648 := by
    rw [Int.natAbs_mul]; exact Nat.mul_le_mul (by omega) (by omega)
  exact Int.bmod_eq_of_le (by omega) (by omega)
theorem mul_box {x y : Int} {a b : Nat} (hx : x.natAbs ≤ a) (hy : y.natAbs ≤ b) : (x * y).natAbs ≤ a * b := by
  rw [Int.natAbs_mul]; exact Nat.mul_le_mul hx hy
/-- how great the common under of a goal can be -/
def scB (k : Nat) : Nat := if k = 0 then 1 else 9999 * 99 ^ (k - 1)
theorem scB_step {k x u : Nat} (hx : x ≤ scB k) (hu : u ≤ (if k = 0 then 9999 else 99)) : x * u ≤ scB (k + 1) := by
  refine Nat.le_trans (Nat.mul_le_mul hx hu) ?_
  unfold scB
  by_cases h : k = 0
  · subst h; decide
  · rw [if_neg h, if_neg h, if_neg (by omega), Nat.mul_assoc, ← Nat.pow_succ, show (k - 1).succ = k + 1 - 1 by omega]; exact Nat.le_refl _
theorem scB_9 : scB 9 < 2 ^ 67 := by decide
theorem scB_mono {k : Nat} (h : k ≤ 9) : scB k < 2 ^ 67 := by
  have : ∀ k, k < 10 → scB k < 2 ^ 67 := by decide
  exact this k (by omega)
