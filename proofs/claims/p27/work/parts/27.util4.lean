set_option maxRecDepth 100000 in
theorem sh_ne0 : ∀ i, i < 12 → ¬ (1 : Int32) <<< (nI i &&& 31) = 0 := by decide +kernel
set_option maxRecDepth 100000 in
theorem sh_bit : ∀ i, i < 12 → ∀ j, j < 12 → ¬ i = j → (((1 : Int32) <<< (nI i &&& 31)) >>> (nI j &&& 31)) &&& 1 = 0 := by decide +kernel
theorem pick_far {g : Nat → Int32} {si : Nat} {i : Nat} (x : Int32) (hi : i < 12) (hx : x = if i = si then 0 else 536870912) (hg : ∀ j, j < i → g j = if j = si then 0 else 536870912) : ∀ j, j < i + 1 → upd g (nI i).toNatClampNeg x j = if j = si then 0 else 536870912 := fun j hj => by
  rw [upd_at (by omega)]
  by_cases e9 : j = i
  · rw [if_pos e9, e9]; exact hx
  · rw [if_neg e9]; exact hg j (by omega)
