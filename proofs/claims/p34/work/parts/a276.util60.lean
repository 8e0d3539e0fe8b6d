/-- the binding of a row, its test: there is none, or one that has been read -/
def BiO (f36 f37 f38 : Nat → Int32) (se : Nat) (x : Int32) : Prop := x = -1 ∨ ∃ b, x = nI b ∧ b < 900 ∧ BnO f36 f37 f38 se b
def TiO (G : RG) (f29 : Nat → Int32) (x : Int32) : Prop := x = -1 ∨ ∃ c, x = nI c ∧ TruO G f29 c 51
theorem WmO.push {f : Nat → Int32} {n w : Nat} (h : WmO f n) (hn : n < 4000) (hw : 1 ≤ w ∧ w ≤ 3) : WmO (upd f (nI n).toNatClampNeg (nI w)) (n + 1) := fun r hr => by
  rw [upd_at (by omega)]
  by_cases e : r = n
  · rw [if_pos e]; exact ⟨w, rfl, hw.1, hw.2⟩
  · rw [if_neg e]; exact h r (by omega)
