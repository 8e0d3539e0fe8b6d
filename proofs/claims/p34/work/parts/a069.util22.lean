/-- texts on the tape, by place and length -/
def NmO (f g : Nat → Int32) (n : Nat) : Prop := ∀ k, k < n → ∃ x y : Nat, f k = nI x ∧ g k = nI y ∧ x + y ≤ 4000
