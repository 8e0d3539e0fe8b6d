/-- the goals are in their bounds -/
def GoO (f63 f64 : Nat → Int32) (gn : Nat) : Prop := ∀ g k, g < gn → k < 9 → (-(if k = 0 then 9999 else 99) ≤ (f63 (9 * g + k)).toInt ∧ (f63 (9 * g + k)).toInt ≤ (if k = 0 then 9999 else 99)) ∧ 1 ≤ (f64 (9 * g + k)).toInt ∧ (f64 (9 * g + k)).toInt ≤ (if k = 0 then 9999 else 99)
/-- one goal is laid, k numbers of it -/
def GoK (f63 f64 : Nat → Int32) (g k : Nat) : Prop := ∀ j, j < k → (-(if j = 0 then 9999 else 99) ≤ (f63 (9 * g + j)).toInt ∧ (f63 (9 * g + j)).toInt ≤ (if j = 0 then 9999 else 99)) ∧ 1 ≤ (f64 (9 * g + j)).toInt ∧ (f64 (9 * g + j)).toInt ≤ (if j = 0 then 9999 else 99)
theorem GoK.next {f63 f64 : Nat → Int32} {g k : Nat} {v w : Int32} (h : GoK f63 f64 g k) (hg : g < 3) (hk : k < 9) (h1 : -(if k = 0 then 9999 else 99) ≤ v.toInt ∧ v.toInt ≤ (if k = 0 then 9999 else 99)) (h2 : 1 ≤ w.toInt ∧ w.toInt ≤ (if k = 0 then 9999 else 99)) : GoK (upd f63 (nI (9 * g + k)).toNatClampNeg v) (upd f64 (nI (9 * g + k)).toNatClampNeg w) g (k + 1) := fun j hj => by
  rw [upd_at (by omega), upd_at (by omega)]
  by_cases e : j = k
  · subst e
    rw [if_pos rfl, if_pos rfl]; exact ⟨h1, h2⟩
  · rw [if_neg (show ¬ (9 * g + j = 9 * g + k) by omega), if_neg (show ¬ (9 * g + j = 9 * g + k) by omega)]; exact h j (by omega)
theorem GoO.next {f63 f64 g63 g64 : Nat → Int32} {gn : Nat} (h : GoO f63 f64 gn) (e : ∀ q, q < 9 * gn → g63 q = f63 q ∧ g64 q = f64 q) (h1 : GoK g63 g64 gn 9) : GoO g63 g64 (gn + 1) := fun g k hg hk => by
  by_cases e9 : g = gn
  · subst e9; exact h1 k hk
  · obtain ⟨a, b⟩ := e (9 * g + k) (by omega)
    rw [a, b]; exact h g k (by omega) hk
