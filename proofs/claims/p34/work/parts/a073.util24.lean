/-- the numbers of a row on the pile are in their bounds -/
def RowU (f g : Nat → Int32) (v : Nat) : Prop := ∀ q, q < 9 → -2000000 ≤ (f (9 * v + q)).toInt ∧ (f (9 * v + q)).toInt ≤ 2000000 ∧ 1 ≤ (g (9 * v + q)).toInt ∧ (g (9 * v + q)).toInt ≤ 2000000
theorem RowU.put {f g : Nat → Int32} {u v k : Nat} {x y : Int32} (hv : v < 100) (hu : u < 100) (hk : k < 9) (h : RowU f g u) (hx : (x).toInt ≤ 1000000 ∧ -1000000 ≤ (x).toInt ∧ 1 ≤ (y).toInt ∧ (y).toInt ≤ 1000000) : RowU (upd f (nI (9 * v + k)).toNatClampNeg x) (upd g (nI (9 * v + k)).toNatClampNeg y) u := by
  intro q hq
  rw [upd_at (by omega), upd_at (by omega)]
  by_cases e : 9 * u + q = 9 * v + k
  · rw [if_pos e, if_pos e]; omega
  · rw [if_neg e, if_neg e]; exact h q hq
