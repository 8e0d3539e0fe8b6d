theorem sumN_le {n b : Nat} {f : Nat → Nat} (h : ∀ q, q < n → f q ≤ b) : sumN n f ≤ n * b := by
  induction n with
  | zero => exact Nat.zero_le _
  | succ n ih =>
    simp only [sumN]
    have h1 := ih (fun q hq => h q (by omega))
    have h2 := h n (by omega)
    rw [Nat.add_mul, Nat.one_mul]; omega
/-- the goals of a case, as they are laid -/
def GldG (C R T : Nat) (m : Nat → Int) : Prop := (∀ j, j ≤ C → m (30 + R * (C + 1) + j) = if j = C - 1 then 1 else 0) ∧ ∀ i, R < i → i < T → ∀ j, j ≤ C → (m (30 + i * (C + 1) + j)).natAbs < 2 ^ 74
theorem GldG.frame {C R T : Nat} {m m2 : Nat → Int} (h : GldG C R T m) (hRT : R < T) (e : ∀ p, 30 ≤ p → p < 30 + T * (C + 1) → m2 p = m p) : GldG C R T m2 :=
  ⟨fun j hj => by rw [e _ (by omega) (by have := pl_lt hRT hj; omega)]; exact h.1 j hj, fun i h1 h2 j hj => by rw [e _ (by omega) (by have := pl_lt h2 hj; omega)]; exact h.2 i h1 h2 j hj⟩
theorem BldL.frame {C R : Nat} {m m2 : Nat → Int} {f5 : Nat → Int32} (h : BldL C R m f5) (e : ∀ p, 30 ≤ p → p < 30 + R * (C + 1) → m2 p = m p) : BldL C R m2 f5 := by
  intro i hi
  obtain ⟨k1, k2, k3, k4⟩ := h i hi
  have hp : ∀ j, j ≤ C → m2 (30 + i * (C + 1) + j) = m (30 + i * (C + 1) + j) := fun j hj => e _ (by omega) (by have := pl_lt hi hj; omega)
  exact ⟨k1, fun j hj => by rw [hp j (by omega)]; exact k2 j hj, by rw [hp _ (by omega)]; exact k3, by rw [hp _ (Nat.le_refl _)]; exact k4⟩
theorem case_num : bF 793 1000000 1 10 < 2 ^ 120 ∧ bF 793 1000000 1 10 * 2 ^ 78 < 2 ^ 294 := by decide +kernel
/-- the tableaux of a case are small -/
theorem case_small {C R T : Nat} {m : Nat → Int} {f5 : Nat → Int32} (hC : 0 < C) (hC9 : C ≤ 9) (hRT : R < T) (hB : BldL C R m f5) (hG : GldG C R T m) :
    ∀ t D rl cl, SxF C R T (fun i j => m (30 + i * (C + 1) + j)) t D rl cl → (D.natAbs < 2 ^ 120 ∧ ∀ i, i < R → ∀ j, j ≤ C → (t i j).natAbs < 2 ^ 120) ∧ ∀ i, i < T → ∀ j, j ≤ C → (t i j).natAbs < 2 ^ 294 := by
  intro t D rl cl h
  have hb := h.bd (W := 793) (Bc := 1000000) (GM := 2 ^ 78) (k := 10) (by decide) (by decide) (Or.inr (by omega)) (fun i hi => by
      obtain ⟨k1, k2, k3, k4⟩ := hB i hi
      have e : sumN C (fun q => (m (30 + i * (C + 1) + q)).natAbs) = sumN (C - 1) (fun q => (m (30 + i * (C + 1) + q)).natAbs) + (m (30 + i * (C + 1) + (C - 1))).natAbs := by
        obtain ⟨c, rfl⟩ : ∃ c, C = c + 1 := ⟨C - 1, by omega⟩
        rfl
      have h1 := sumN_le (n := C - 1) (b := 99) (f := fun q => (m (30 + i * (C + 1) + q)).natAbs) (fun q hq => k2 q hq)
      have h2 : (C - 1) * 99 ≤ 8 * 99 := Nat.mul_le_mul_right _ (by omega)
      show sumN C (fun q => (m (30 + i * (C + 1) + q)).natAbs) ≤ 793
      rw [e, k3]; have h3 : (-1 : Int).natAbs = 1 := rfl
      omega) (fun i hi => (hB i hi).2.2.2) (fun i hi hT => by
      have h1 : sumN (C + 1) (fun q => (m (30 + i * (C + 1) + q)).natAbs) ≤ (C + 1) * 2 ^ 74 := sumN_le (fun q hq => by
        by_cases e : i = R
        · subst e; rw [hG.1 q (by omega)]; split
          · exact Nat.one_le_two_pow
          · exact Nat.zero_le _
        · exact Nat.le_of_lt (hG.2 i (by omega) hT q (by omega)))
      have h2 : (C + 1) * 2 ^ 74 ≤ 16 * 2 ^ 74 := Nat.mul_le_mul_right _ (by omega)
      have h3 : (16 : Nat) * 2 ^ 74 = 2 ^ 78 := by decide +kernel
      exact Nat.le_trans h1 (by omega)) (by omega)
  have hn := case_num
  refine ⟨⟨Nat.lt_of_le_of_lt hb.1 hn.1, fun i hi j hj => ?_⟩, fun i hi j hj => ?_⟩
  · have h1 := hb.2 i (by omega) j hj
    rw [if_pos hi, Nat.mul_one] at h1
    exact Nat.lt_of_le_of_lt h1 hn.1
  · have h1 := hb.2 i hi j hj
    refine Nat.lt_of_le_of_lt h1 (Nat.lt_of_le_of_lt (Nat.mul_le_mul_left _ ?_) hn.2)
    split
    · exact Nat.one_le_two_pow
    · exact Nat.le_refl _
