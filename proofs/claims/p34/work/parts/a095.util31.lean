theorem sum_dec {f g : Nat → Nat} {h : Nat} (e : ∀ q, q ≠ h → g q = f q) (hl : g h < f h) : ∀ n, h < n → sumN n g < sumN n f := by
  intro n
  induction n with
  | zero => intro h9; omega
  | succ n ih =>
    intro h9
    simp only [sumN]
    by_cases e9 : h = n
    · subst e9
      have : sumN h g = sumN h f := by
        have key : ∀ k, k ≤ h → sumN k g = sumN k f := by
          intro k
          induction k with
          | zero => intro _; rfl
          | succ k ih2 => intro hk; simp only [sumN]; rw [ih2 (by omega), e k (by omega)]
        exact key h (Nat.le_refl _)
      omega
    · have := ih (by omega); rw [e n (by omega)]; omega
theorem inc_nI {x : Int32} (h : -1 ≤ x.toInt ∧ x.toInt ≤ 16) : ∃ v : Nat, x + 1 = nI v ∧ (v : Int) = x.toInt + 1 ∧ v ≤ 17 := by
  have e1 : (x + 1).toInt = x.toInt + 1 := by rw [addB (by omega) (by decide)]; rfl
  obtain ⟨v, hv, ev⟩ := of_toInt (x := x + 1) (k := 18) (by omega) (by omega)
  refine ⟨v, ev, ?_, by omega⟩
  rw [← e1, ev, nI_toInt (by omega)]
/-- the figures of a row of values -/
def dgR (f : Nat → Int32) (h : Nat) : Nat := ((f h).toInt + 1).toNat
def RvO (f : Nat → Int32) (hn : Nat) : Prop := ∀ h, h < hn → -1 ≤ (f h).toInt ∧ (f h).toInt ≤ 16
theorem RvO.dg {f : Nat → Int32} {hn : Nat} (h : RvO f hn) {q : Nat} (hq : q < hn) : dgR f q < 18 := by
  have := h q hq
  unfold dgR; omega
theorem RvO.set {f g : Nat → Int32} {hn k : Nat} (h : RvO f hn) (e : ∀ q, q ≠ k → g q = f q) (h1 : -1 ≤ (g k).toInt ∧ (g k).toInt ≤ 16) : RvO g hn := fun q hq => by
  by_cases e9 : q = k
  · subst e9; exact h1
  · rw [e q e9]; exact h q hq
