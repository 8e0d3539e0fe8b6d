/-- the word before the reader: from fn to an; only the end has no letters; a number has at most six figures -/
def LxO (tp fn an : Nat) (wd sg : Int32) : Prop := fn ≤ an ∧ an ≤ tp ∧ (wd = 0 ∨ fn < an) ∧ (wd = 3 → 0 ≤ sg.toInt ∧ sg.toInt ≤ 999999)
theorem i32z {x : Int32} (h : x.toInt = 0) : x = 0 := Int32.toInt_inj.mp (by rw [h]; decide)
