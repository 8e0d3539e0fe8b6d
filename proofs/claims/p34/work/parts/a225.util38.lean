/-- sets, as they are kept -/
def SeO (f16 f17 : Nat → Int32) (se : Nat) : Prop := ∀ o, o < se → (∃ m, 1 ≤ m ∧ m ≤ 12 ∧ f17 o = nI m) ∧ -999999 ≤ (f16 o).toInt ∧ (f16 o).toInt ≤ 999999
/-- what a name stands for -/
def NkO (f10 f13 : Nat → Int32) (nm se pa va : Nat) : Prop := ∀ k, k < nm → ∃ o, f13 k = nI o ∧ o < 44 ∧ (f10 k = 1 → o < se) ∧ (f10 k = 2 → o < pa) ∧ (f10 k = 3 → o < va)
def OwO (x y : Int32) : Prop := x = -1 ∨ ∃ p q : Nat, x = nI p ∧ y = nI q ∧ p + q ≤ 4000
/-- a binding: one set or two, and where its values lie -/
def BnO (f36 f37 f38 : Nat → Int32) (se b : Nat) : Prop := (∃ o, o < se ∧ f36 b = nI o) ∧ (f37 b = -1 ∨ ∃ o, o < se ∧ f37 b = nI o) ∧ ∃ x, x < 59 ∧ f38 b = nI x
def EnO (f51 : Nat → Int32) : Prop := ∀ b, b < 60 → -1000200 ≤ (f51 b).toInt ∧ (f51 b).toInt ≤ 1000200
theorem EnO.set {f g : Nat → Int32} {k : Nat} (h : EnO f) (e : ∀ q, q ≠ k → g q = f q) (h1 : -1000200 ≤ (g k).toInt ∧ (g k).toInt ≤ 1000200) : EnO g := fun q hq => by
  by_cases e9 : q = k
  · subst e9; exact h1
  · rw [e q e9]; exact h q hq
theorem ne64 {x : Int64} (h : 0 < x.toInt) : ¬ x = 0 := fun e => by
  rw [e] at h; exact absurd h (by decide)
/-- how many numbers a name of pl places (o1, o2) has -/
def memN (f17 : Nat → Int32) (pl o1 o2 : Nat) : Nat := (if pl = 0 then 1 else (f17 o1).toInt.toNat) * (if pl = 2 then (f17 o2).toInt.toNat else 1)
def MemP (f17 : Nat → Int32) (pl o1 o2 mm : Nat) : Prop := mm = memN f17 pl o1 o2
theorem nI_tn {m : Nat} (h : m < 2147483648) : (nI m).toInt.toNat = m := by
  rw [nI_toInt (by omega)]; rfl
theorem MemP.m0 {f17 : Nat → Int32} {pl o1 o2 : Nat} (h : pl = 0) : MemP f17 pl o1 o2 1 := by
  unfold MemP memN
  rw [if_pos h, if_neg (by omega)]
theorem MemP.m1 {f17 : Nat → Int32} {pl o1 o2 m : Nat} (h : pl = 1) (e : f17 o1 = nI m) (hm : m ≤ 12) : MemP f17 pl o1 o2 m := by
  unfold MemP memN
  rw [if_neg (by omega), if_neg (by omega), e, nI_tn (by omega), Nat.mul_one]
theorem MemP.m2 {f17 : Nat → Int32} {pl o1 o2 m n : Nat} (h : pl = 2) (e : f17 o1 = nI m) (hm : m ≤ 12) (e2 : f17 o2 = nI n) (hn : n ≤ 12) : MemP f17 pl o1 o2 (m * n) := by
  unfold MemP memN
  rw [if_neg (by omega), if_pos h, e, e2, nI_tn (by omega), nI_tn (by omega)]
