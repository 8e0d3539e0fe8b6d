theorem lv28_ge {f : Nat → Int32} {o n : Nat} (h : Lm f o (n + 1)) (ht : f (o + n) ≠ 0) : 2 ^ (28 * n) ≤ lv28 f o (n + 1) := by
  obtain ⟨d, hd, e⟩ := h n (by omega)
  simp only [lv28]
  rw [e, nI_clamp (by omega)]
  have : 0 < d := Nat.pos_of_ne_zero fun e0 => ht (by rw [e, e0]; exact nI_0)
  have := Nat.le_mul_of_pos_left (2 ^ (28 * n)) this
  omega
theorem lv28_less {f g : Nat → Int32} {o p k : Nat} (n : Nat) (hk : k < n) (hf : Lm f o n) (he : ∀ q, k < q → q < n → f (o + q) = g (p + q)) (hl : (f (o + k)).toNatClampNeg < (g (p + k)).toNatClampNeg) : lv28 f o n < lv28 g p n := by
  induction n with
  | zero => omega
  | succ n ih =>
    simp only [lv28]
    by_cases e : k = n
    · subst e
      have h1 := lv28_lt (fun q hq => hf q (by omega) : Lm f o k)
      have h2 : (f (o + k)).toNatClampNeg * 2 ^ (28 * k) + 2 ^ (28 * k) ≤ (g (p + k)).toNatClampNeg * 2 ^ (28 * k) := by
        rw [← Nat.succ_mul]
        exact Nat.mul_le_mul_right _ hl
      omega
    · have := ih (by omega) (fun q hq => hf q (by omega)) (fun q h1 h2 => he q h1 (by omega))
      rw [he n (by omega) (by omega)]
      omega
/-- fewer limbs, a smaller number -/
theorem lv28_few {f g : Nat → Int32} {o p n k : Nat} (hf : Lm f o n) (hg : Lm g p k) (ht : g (p + (k - 1)) ≠ 0) (h : n < k) : lv28 f o n < lv28 g p k := by
  obtain ⟨k', rfl⟩ : ∃ k', k = k' + 1 := ⟨k - 1, by omega⟩
  have h1 := lv28_lt hf
  have h2 := lv28_ge hg (by simpa using ht)
  have h3 : 2 ^ (28 * n) ≤ 2 ^ (28 * k') := Nat.pow_le_pow_right (by omega) (by omega)
  omega
theorem limb_lt {f : Nat → Int32} {o n : Nat} (h : Lm f o n) {q : Nat} (hq : q < n) : 0 ≤ (f (o + q)).toInt ∧ (f (o + q)).toInt < 268435456 ∧ (f (o + q)).toNatClampNeg = (f (o + q)).toInt.toNat := by
  obtain ⟨d, hd, e⟩ := h q hq
  rw [e, nI_toInt (by omega), nI_clamp (by omega)]
  omega
theorem subT {x y : Int32} (hx : 0 ≤ x.toInt ∧ x.toInt < 1073741824) (hy : 0 ≤ y.toInt ∧ y.toInt < 1073741824) : (x - y).toInt = x.toInt - y.toInt := by
  obtain ⟨i, hi, rfl⟩ := of_toInt (k := 1073741824) hx.1 hx.2
  obtain ⟨j, hj, rfl⟩ := of_toInt (k := 1073741824) hy.1 hy.2
  rw [pk_sub_toInt hi hj, nI_toInt (by omega), nI_toInt (by omega)]
theorem m1T {k : Nat} (h : k < 2 ^ 30) : (nI k + (-1)).toInt = (k : Int) - 1 := by
  have e : nI k + (-1) = nI k - nI 1 := by rw [Int32.sub_eq_add_neg]; rfl
  rw [e, pk_sub_toInt h (by decide)]; rfl
theorem subB {x y : Int32} (hx : -1073741824 ≤ x.toInt ∧ x.toInt ≤ 1073741824) (hy : -1073741824 < y.toInt ∧ y.toInt < 1073741824) : (x - y).toInt = x.toInt - y.toInt := by
  rw [Int32.toInt_sub]
  exact Int.bmod_eq_of_le (by omega) (by omega)
theorem negB {x : Int32} (hx : -1073741824 ≤ x.toInt ∧ x.toInt ≤ 1073741824) : (-x).toInt = - x.toInt := by
  rw [Int32.toInt_neg]
  exact Int.bmod_eq_of_le (by omega) (by omega)
theorem sgT {x : Int} {y : Int32} (h : (x = 0 ∧ y = 0) ∨ (0 < x ∧ y = 1) ∨ (x < 0 ∧ y = -1)) : (x = 0 ∧ y.toInt = 0) ∨ (0 < x ∧ y.toInt = 1) ∨ (x < 0 ∧ y.toInt = -1) := by
  rcases h with ⟨h, rfl⟩ | ⟨h, rfl⟩ | ⟨h, rfl⟩
  · exact Or.inl ⟨h, by decide⟩
  · exact Or.inr (Or.inl ⟨h, by decide⟩)
  · exact Or.inr (Or.inr ⟨h, by decide⟩)
theorem mulS {x y : Int32} (hx : x.toInt = 1 ∨ x.toInt = -1) (hy : -1073741824 < y.toInt ∧ y.toInt < 1073741824) : (x * y).toInt = x.toInt * y.toInt := by
  rw [Int32.toInt_mul]
  rcases hx with h | h <;> rw [h] <;> exact Int.bmod_eq_of_le (by omega) (by omega)
