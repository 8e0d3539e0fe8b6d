/-- the tableau in big -/
def TabN (C T : Nat) (m : Nat → Int) (t : Nat → Nat → Int) (D : Int) : Prop := (∀ i, i < T → ∀ j, j ≤ C → m (30 + i * (C + 1) + j) = t i j) ∧ m 20 = D
/-- the tableau in fast -/
def TabQ (C T : Nat) (F : Nat → Int64) (qd : Int64) (t : Nat → Nat → Int) (D : Int) : Prop := (∀ p, p < T * (C + 1) → -2147483648 < (F p).toInt ∧ (F p).toInt < 2147483648) ∧ (∀ i, i < T → ∀ j, j ≤ C → (F (i * (C + 1) + j)).toInt = t i j) ∧ qd.toInt = D ∧ D < 2147483648
def Tab (q : Int32) (C T : Nat) (m : Nat → Int) (F : Nat → Int64) (qd : Int64) (t : Nat → Nat → Int) (D : Int) : Prop := (q = 0 ∧ TabN C T m t D) ∨ (q = 1 ∧ TabQ C T F qd t D)
theorem Tab.n {q : Int32} {C T : Nat} {m : Nat → Int} {F : Nat → Int64} {qd : Int64} {t : Nat → Nat → Int} {D : Int} (h : Tab q C T m F qd t D) (hq : q = 0) : TabN C T m t D := by
  rcases h with h | h
  · exact h.2
  · exact absurd (h.1.symm.trans hq) (by decide)
theorem Tab.q {q : Int32} {C T : Nat} {m : Nat → Int} {F : Nat → Int64} {qd : Int64} {t : Nat → Nat → Int} {D : Int} (h : Tab q C T m F qd t D) (hq : ¬ q = 0) : q = 1 ∧ TabQ C T F qd t D := by
  rcases h with h | h
  · exact absurd h.1 hq
  · exact h
theorem TabN.frame {C T : Nat} {m m2 : Nat → Int} {t : Nat → Nat → Int} {D : Int} (h : TabN C T m t D) (e : ∀ p, (p = 20 ∨ 30 ≤ p) → m2 p = m p) : TabN C T m2 t D :=
  ⟨fun i hi j hj => (e _ (Or.inr (by omega))).trans (h.1 i hi j hj), (e 20 (Or.inl rfl)).trans h.2⟩
theorem Tab.frame {q : Int32} {C T : Nat} {m m2 : Nat → Int} {F : Nat → Int64} {qd : Int64} {t : Nat → Nat → Int} {D : Int} (h : Tab q C T m F qd t D) (e : ∀ p, (p = 20 ∨ 30 ≤ p) → m2 p = m p) : Tab q C T m2 F qd t D := by
  rcases h with h | h
  · exact Or.inl ⟨h.1, h.2.frame e⟩
  · exact Or.inr h
theorem mulQ {x y : Int64} (hx : -2147483648 < x.toInt ∧ x.toInt < 2147483648) (hy : -2147483648 < y.toInt ∧ y.toInt < 2147483648) : (x * y).toInt = x.toInt * y.toInt ∧ -4611686014132420609 ≤ x.toInt * y.toInt ∧ x.toInt * y.toInt ≤ 4611686014132420609 := by
  have h1 : (x.toInt * y.toInt).natAbs ≤ 2147483647 * 2147483647 := by
    rw [Int.natAbs_mul]; exact Nat.mul_le_mul (by omega) (by omega)
  have h2 : -4611686014132420609 ≤ x.toInt * y.toInt ∧ x.toInt * y.toInt ≤ 4611686014132420609 := by omega
  refine ⟨?_, h2⟩
  rw [Int64.toInt_mul]
  exact Int.bmod_eq_of_le (by omega) (by omega)
theorem mul_bd {x y k : Nat} (hx : x < 2 ^ k) (hy : y < 2 ^ k) (h : k ≤ 294) : x * y < 2 ^ 588 := by
  have h1 : x * y < 2 ^ k * 2 ^ k := Nat.mul_lt_mul'' hx hy
  rw [← Nat.pow_add] at h1
  exact Nat.lt_of_lt_of_le h1 (Nat.pow_le_pow_right (by decide) (by omega))
