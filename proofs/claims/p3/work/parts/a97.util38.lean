/-- sets, as they are kept -/
def SeO (f16 f17 : Nat → Int32) (se : Nat) : Prop := ∀ o, o < se → (∃ m, 1 ≤ m ∧ m ≤ 12 ∧ f17 o = nI m) ∧ -999999 ≤ (f16 o).toInt ∧ (f16 o).toInt ≤ 999999
/-- what a name stands for -/
def NkO (f10 f13 : Nat → Int32) (nm se pa va : Nat) : Prop := ∀ k, k < nm → ∃ o, f13 k = nI o ∧ o < 44 ∧ (f10 k = 1 → o < se) ∧ (f10 k = 2 → o < pa) ∧ (f10 k = 3 → o < va)
def OwO (x y : Int32) : Prop := x = -1 ∨ ∃ p q : Nat, x = nI p ∧ y = nI q ∧ p + q ≤ 4000
/-- a binding: one set or two, and where its values lie -/
def BnO (f36 f37 f38 : Nat → Int32) (se b : Nat) : Prop := (∃ o, o < se ∧ f36 b = nI o) ∧ (f37 b = -1 ∨ ∃ o, o < se ∧ f37 b = nI o) ∧ ∃ x, x < 59 ∧ f38 b = nI x
def EnO (f51 : Nat → Int32) : Prop := ∀ b, b < 60 → -1000200 ≤ (f51 b).toInt ∧ (f51 b).toInt ≤ 1000200
theorem EnO.set {f g : Nat → Int32} {k : Nat} (h : EnO f) (e : ∀ q, q ≠ k → g q = f q) (h1 : -1000200 ≤ (g k).toInt ∧ (g k).toInt ≤ 1000200) : EnO g := fun q hq => by
  by_cases e9 : q = k
  · subst e9; exact h1
  · rw [e q e9]; exact h q hq
theorem ne64 {x : Int64} (h : 0 < x.toInt) : ¬ x = 0 := fun e => by
  rw [e] at h; exact absurd h (by decide)
