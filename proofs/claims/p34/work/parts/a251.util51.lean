/-- the same letters at x and at y, n of them -/
def SmT (tp : Nat → Int32) (x n y m : Nat) : Prop := n = m ∧ ∀ q, q < n → tp (x + q) = tp (y + q)
/-- the word at fn .. an is the k-th of the names -/
def SmW (tp f g : Nat → Int32) (fn an k : Nat) : Prop := ∃ x y : Nat, f k = nI x ∧ g k = nI y ∧ x + y ≤ 4000 ∧ SmT tp x y fn (an - fn)
theorem nIinj' {a b : Nat} (ha : a ≤ 4000) (hb : b ≤ 4000) (h : nI a = nI b) : a = b := by
  have h := congrArg Int32.toInt h
  rw [nI_toInt (by omega), nI_toInt (by omega)] at h
  omega
theorem SmW.no {tp f g : Nat → Int32} {fn an k x y : Nat} (e1 : f k = nI x) (e2 : g k = nI y) (h4 : x + y ≤ 4000) (h : ¬ SmT tp x y fn (an - fn)) : ¬ SmW tp f g fn an k := fun ⟨x9, y9, h1, h2, h3, h5⟩ => by
  obtain rfl : x = x9 := nIinj' (by omega) (by omega) (e1.symm.trans h1)
  obtain rfl : y = y9 := nIinj' (by omega) (by omega) (e2.symm.trans h2)
  exact h h5
/-- a number or a bracket may begin here, or a name that is bound, or a number's or a variable's -/
def CbO (tp f10 f11 f12 f14 f15 : Nat → Int32) (fn an nm bd : Nat) : Prop := (∃ k, k < bd ∧ SmW tp f14 f15 fn an k) ∨ ∃ k, k < nm ∧ SmW tp f11 f12 fn an k ∧ (∀ j, j < k → ¬ SmW tp f11 f12 fn an j) ∧ (f10 k = 2 ∨ f10 k = 3)
def CbQ (wd : Int32) (tp f10 f11 f12 f14 f15 : Nat → Int32) (fn an nm bd : Nat) : Prop := wd.toInt = 1 → CbO tp f10 f11 f12 f14 f15 fn an nm bd
def CbW (wd sg : Int32) : Prop := wd.toInt = 3 ∨ wd.toInt = 1 ∨ (wd.toInt = 4 ∧ sg = 45) ∨ (wd.toInt = 4 ∧ sg = 40) ∨ (wd.toInt = 2 ∧ sg = 12)
