theorem MdlB.under {F : Nat → Nat → Int32} {gq : Nat} (h : MdlB F gq) {g k : Nat} (hg : g < gq) (hk : k < 9) : 1 ≤ (F 64 (9 * g + k)).toInt ∧ (F 64 (9 * g + k)).toInt.natAbs ≤ (if k = 0 then 9999 else 99) := by
  by_cases e : k = 0
  · subst e; rw [if_pos rfl]; have := (h.2.2.2.2.1 g hg).2; rw [Nat.add_zero]; omega
  · rw [if_neg e]
    have := (h.2.2.2.2.2.1 g (k - 1) hg (by omega)).2
    rw [show 9 * g + 1 + (k - 1) = 9 * g + k by omega] at this; omega
theorem MdlB.top {F : Nat → Nat → Int32} {gq : Nat} (h : MdlB F gq) {g k : Nat} (hg : g < gq) (hk : k < 9) : (F 63 (9 * g + k)).toInt.natAbs ≤ (if k = 0 then 9999 else 99) := by
  by_cases e : k = 0
  · subst e; rw [if_pos rfl]; have := (h.2.2.2.2.1 g hg).1; rw [Nat.add_zero]; omega
  · rw [if_neg e]
    have := (h.2.2.2.2.2.1 g (k - 1) hg (by omega)).1
    rw [show 9 * g + 1 + (k - 1) = 9 * g + k by omega] at this; omega
theorem sc_big {x u : Nat} (hx : x < 2 ^ 67) (hu : u ≤ 9999) : x * u < 2 ^ 588 := by
  have h1 : x * u ≤ 2 ^ 67 * 2 ^ 14 := Nat.mul_le_mul (by omega) (by omega)
  have h2 : (2 : Nat) ^ 67 * 2 ^ 14 < 2 ^ 588 := by rw [← Nat.pow_add]; exact Nat.pow_lt_pow_right (by decide) (by decide)
  omega
/-- a number by its figures, the first of them the greatest -/
def odo (f b : Nat → Nat) : Nat → Nat
  | 0 => 0
  | n + 1 => odo f b n * b n + f n
def odoP (b : Nat → Nat) : Nat → Nat
  | 0 => 1
  | n + 1 => odoP b n * b n
theorem odo_lt {f b : Nat → Nat} : ∀ n, (∀ q, q < n → f q < b q) → odo f b n < odoP b n := by
  intro n
  induction n with
  | zero => intro _; show 0 < 1; omega
  | succ n ih =>
    intro h
    have h1 := ih (fun q hq => h q (by omega))
    have h2 := h n (by omega)
    simp only [odo, odoP]
    have h3 : (odo f b n + 1) * b n ≤ odoP b n * b n := Nat.mul_le_mul_right _ h1
    rw [Nat.add_mul, Nat.one_mul] at h3; omega
/-- one figure grows, those behind it begin anew -/
theorem odo_up {f g b : Nat → Nat} {r : Nat} (h1 : ∀ q, q < r → g q = f q) (h2 : f r < g r) : ∀ n, r < n → (∀ q, r < q → q < n → f q < b q) → odo f b n < odo g b n := by
  have hpre : ∀ n, n ≤ r → odo g b n = odo f b n := by
    intro n
    induction n with
    | zero => intro _; rfl
    | succ n ih => intro h; simp only [odo]; rw [ih (by omega), h1 n (by omega)]
  intro n
  induction n with
  | zero => intro h; omega
  | succ n ih =>
    intro hn hd
    simp only [odo]
    by_cases e : n = r
    · subst e; rw [hpre n (Nat.le_refl _)]; omega
    · have h3 := ih (by omega) (fun q hq1 hq2 => hd q hq1 (by omega))
      have h4 := hd n (by omega) (by omega)
      have h5 : (odo f b n + 1) * b n ≤ odo g b n * b n := Nat.mul_le_mul_right _ h3
      rw [Nat.add_mul, Nat.one_mul] at h5; omega
