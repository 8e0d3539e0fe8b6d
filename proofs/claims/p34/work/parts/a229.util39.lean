/-- the numbers of the ways are in their bounds -/
def WnO (f : Nat → Int32) : Prop := (∀ q, q < 39 → -99999 ≤ (f (9 * q)).toInt ∧ (f (9 * q)).toInt ≤ 99999) ∧ ∀ q k, q < 39 → k < 8 → -99 ≤ (f (9 * q + 1 + k)).toInt ∧ (f (9 * q + 1 + k)).toInt ≤ 99
theorem WnO.set {f g : Nat → Int32} {q k : Nat} (h : WnO f) (hq : q < 39) (hk : k < 9) (e : ∀ x, x ≠ 9 * q + k → g x = f x) (h1 : (g (9 * q + k)).toInt.natAbs ≤ (if k = 0 then 99999 else 99)) : WnO g := by
  refine ⟨fun q2 hq2 => ?_, fun q2 k2 hq2 hk2 => ?_⟩
  · by_cases e9 : 9 * q2 = 9 * q + k
    · rw [e9]; rw [if_pos (by omega)] at h1; omega
    · rw [e _ e9]; exact h.1 q2 hq2
  · by_cases e9 : 9 * q2 + 1 + k2 = 9 * q + k
    · rw [e9]; rw [if_neg (by omega)] at h1; omega
    · rw [e _ e9]; exact h.2 q2 k2 hq2 hk2
def p42 : Nat → Nat
  | 0 => 1
  | n + 1 => p42 n * 4398046511104
theorem p42_le : ∀ n, n < 10 → p42 n < 2 ^ 379 := by decide +kernel
theorem p42_step {n x y : Nat} (hx : x ≤ p42 n) (hy : y ≤ 8000000000000 / 2) : x * y ≤ p42 (n + 1) := Nat.mul_le_mul hx (by omega)
