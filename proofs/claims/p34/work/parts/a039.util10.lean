theorem worth_big {f : Nat → Int32} {s n : Nat} {x : Int} (h2 : 2 < n) (hL : Lm f (24 * s + 2) n) (ht : 0 < n → f (24 * s + 1 + n) ≠ 0) (hx : x.natAbs = lv28 f (24 * s + 2) n) : 72057594037927936 ≤ x.natAbs := by
  obtain ⟨k, rfl⟩ : ∃ k, n = k + 1 := ⟨n - 1, by omega⟩
  have h := lv28_ge hL (by rw [show 24 * s + 2 + k = 24 * s + 1 + (k + 1) by omega]; exact ht (by omega))
  have h3 : 2 ^ (28 * 2) ≤ 2 ^ (28 * k) := Nat.pow_le_pow_right (by decide) (by omega)
  rw [hx]; omega
theorem limbs_lt {f : Nat → Int32} {o n k : Nat} (hL : Lm f o n) (h : n ≤ k) : lv28 f o n < 2 ^ (28 * k) :=
  Nat.lt_of_lt_of_le (lv28_lt hL) (Nat.pow_le_pow_right (by decide) (by omega))
theorem mulS3 {x y : Int32} (hx : x.toInt = 0 ∨ x.toInt = 1 ∨ x.toInt = -1) (hy : -1073741824 < y.toInt ∧ y.toInt < 1073741824) : (x * y).toInt = x.toInt * y.toInt := by
  rcases hx with h | h | h
  · have e : x = 0 := Int32.toInt_inj.mp (by rw [h]; decide)
    rw [e, Int32.zero_mul]; simp
  · exact mulS (Or.inl h) hy
  · exact mulS (Or.inr h) hy
theorem small_low {f : Nat → Int32} {s n l0 : Nat} {x : Int} (h0 : 0 < n) (hL : Lm f (24 * s + 2) n) (ht : 0 < n → f (24 * s + 1 + n) ≠ 0) (hx : x.natAbs = lv28 f (24 * s + 2) n) (e : f (24 * s + 2 + 0) = nI l0) (hl : l0 < 268435456) (hb : x.natAbs < 268435456) : x.natAbs = l0 := by
  have hn : n = 1 := by
    rcases Nat.lt_or_ge 1 n with h | h
    · exfalso
      obtain ⟨k, rfl⟩ : ∃ k, n = k + 1 := ⟨n - 1, by omega⟩
      have h := lv28_ge hL (by rw [show 24 * s + 2 + k = 24 * s + 1 + (k + 1) by omega]; exact ht (by omega))
      have h3 : 2 ^ (28 * 1) ≤ 2 ^ (28 * k) := Nat.pow_le_pow_right (by decide) (by omega)
      omega
    · omega
  subst hn
  rw [hx]
  simp only [lv28]
  rw [e, nI_clamp (by omega)]
  simp
theorem gcd_stepN (x y : Nat) : Nat.gcd y (x % y) = Nat.gcd x y := by
  rw [Nat.gcd_comm, ← Nat.gcd_rec, Nat.gcd_comm]
