theorem mulp {x y : Int} {a b c : Nat} (hx : x.natAbs < 2 ^ a) (hy : y.natAbs < 2 ^ b) (h : a + b ≤ c) : (x * y).natAbs < 2 ^ c := by
  rw [Int.natAbs_mul]
  have h1 : x.natAbs * y.natAbs < 2 ^ a * 2 ^ b := Nat.mul_lt_mul'' hx hy
  rw [← Nat.pow_add] at h1
  exact Nat.lt_of_lt_of_le h1 (Nat.pow_le_pow_right (by decide) h)
theorem mulpN {x y : Nat} {a b c : Nat} (hx : x < 2 ^ a) (hy : y < 2 ^ b) (h : a + b ≤ c) : x * y < 2 ^ c := by
  have h1 : x * y < 2 ^ a * 2 ^ b := Nat.mul_lt_mul'' hx hy
  rw [← Nat.pow_add] at h1
  exact Nat.lt_of_lt_of_le h1 (Nat.pow_le_pow_right (by decide) h)
theorem gn_bd0 {x y : Nat} (hx : x < 2 ^ 67) (h : y ≤ x * (if 0 = 0 then 9999 else 99)) : y < 2 ^ 81 := by
  rw [if_pos rfl] at h
  exact Nat.lt_of_le_of_lt h (mulpN (b := 14) hx (by decide) (by decide))
theorem gn_bd1 {x y k : Nat} (hx : x < 2 ^ 67) (h : y ≤ x * (if k + 1 = 0 then 9999 else 99)) : y < 2 ^ 74 := by
  rw [if_neg (by omega)] at h
  exact Nat.lt_of_le_of_lt h (mulpN (b := 7) hx (by decide) (by decide))
/-- an answer's numbers: values and the divisor, goals and their unders -/
def AnsB (m : Nat → Int) (b : Nat) : Prop := (∀ k, k < 9 → (m (b + k)).natAbs < 2 ^ 131) ∧ ∀ g, g < 3 → (m (b + 10 + g)).natAbs < 2 ^ 209 ∧ (m (b + 13 + g)).natAbs < 2 ^ 187
theorem AnsB.frame {m m2 : Nat → Int} {b : Nat} (h : AnsB m b) (e : ∀ p, b ≤ p → p < b + 16 → m2 p = m p) : AnsB m2 b :=
  ⟨fun k hk => by rw [e _ (by omega) (by omega)]; exact h.1 k hk, fun g hg => by rw [e _ (by omega) (by omega), e _ (by omega) (by omega)]; exact h.2 g hg⟩
theorem TabN.framez {C T : Nat} {m m2 : Nat → Int} {t : Nat → Nat → Int} {D : Int} (h : TabN C T m t D) (hsz : T * (C + 1) ≤ 970) (e : ∀ p, (p = 20 ∨ (30 ≤ p ∧ p < 1000)) → m2 p = m p) : TabN C T m2 t D :=
  ⟨fun i hi j hj => (e _ (Or.inr ⟨by omega, by have := pl_lt hi hj; omega⟩)).trans (h.1 i hi j hj), (e 20 (Or.inl rfl)).trans h.2⟩
def Sz (k : Nat) (x : Int) : Prop := x.natAbs < 2 ^ k
theorem add131 {x y : Int} (hx : Sz 120 x) (hy : Sz 130 y) : (x + 1 * y).natAbs < 2 ^ 131 := by
  unfold Sz at hx hy
  have h1 : (x + 1 * y).natAbs ≤ x.natAbs + y.natAbs := by omega
  have h2 : (2 : Nat) ^ 120 + 2 ^ 130 ≤ 2 ^ 131 := by
    rw [show (2 : Nat) ^ 131 = 2 ^ 130 + 2 ^ 130 by rw [Nat.pow_succ 2 130, Nat.mul_two]]
    exact Nat.add_le_add_right (Nat.pow_le_pow_right (by decide) (by decide)) _
  omega
theorem lift616 {x : Nat} {k : Nat} (h : x < 2 ^ k) (hk : k ≤ 616) : x < 2 ^ 616 := Nat.lt_of_lt_of_le h (Nat.pow_le_pow_right (by decide) hk)
theorem sz999 {x : Int} (h : -999 ≤ x ∧ x ≤ 999) : Sz 10 x := by unfold Sz; have : x.natAbs ≤ 999 := by omega
                                                                 exact Nat.lt_of_le_of_lt this (by decide)
theorem Sz.mul {x y : Int} {a b c : Nat} (hx : Sz a x) (hy : Sz b y) (h : a + b ≤ c) : Sz c (x * y) := mulp hx hy h
theorem Sz.up {x : Int} {a b : Nat} (hx : Sz a x) (h : a ≤ b) : Sz b x := Nat.lt_of_lt_of_le hx (Nat.pow_le_pow_right (by decide) h)
