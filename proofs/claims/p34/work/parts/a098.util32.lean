/-- arcs: two places, room and price within a thousand -/
def ArO (f95 f96 f97 f98 : Nat → Int32) (ar : Nat) : Prop := ∀ a, a < ar → ∃ x y, x < 12 ∧ y < 12 ∧ x ≠ y ∧ f95 a = nI x ∧ f96 a = nI y ∧ (0 ≤ (f97 a).toInt ∧ (f97 a).toInt ≤ 1000) ∧ 0 ≤ (f98 a).toInt ∧ (f98 a).toInt ≤ 1000
theorem ArO.more {f95 f96 f97 f98 g95 g96 g97 g98 : Nat → Int32} {ar : Nat} (h : ArO f95 f96 f97 f98 ar) (e0 : ∀ r, r < ar → g95 r = f95 r ∧ g96 r = f96 r ∧ g97 r = f97 r ∧ g98 r = f98 r) (h1 : ∃ x y, x < 12 ∧ y < 12 ∧ x ≠ y ∧ g95 ar = nI x ∧ g96 ar = nI y ∧ (0 ≤ (g97 ar).toInt ∧ (g97 ar).toInt ≤ 1000) ∧ 0 ≤ (g98 ar).toInt ∧ (g98 ar).toInt ≤ 1000) : ArO g95 g96 g97 g98 (ar + 1) := fun r hr => by
  by_cases e : r = ar
  · subst e; exact h1
  · obtain ⟨a, b, c, d⟩ := e0 r (by omega)
    rw [a, b, c, d]; exact h r (by omega)
/-- how many of the first n are not x -/
def nvx (x : Int32) (f : Nat → Int32) : Nat → Nat
  | 0 => 0
  | n + 1 => nvx x f n + (if f n = x then 0 else 1)
theorem nvx_le (x : Int32) (f : Nat → Int32) : ∀ n, nvx x f n ≤ n := by
  intro n
  induction n with
  | zero => exact Nat.le_refl _
  | succ n ih => simp only [nvx]; split <;> omega
theorem nvx_congr {x : Int32} {f g : Nat → Int32} : ∀ n, (∀ w, w < n → g w = f w) → nvx x g n = nvx x f n := by
  intro n
  induction n with
  | zero => intro _; rfl
  | succ n ih => intro h; simp only [nvx]; rw [ih (fun w hw => h w (by omega)), h n (by omega)]
theorem nvx_up {x : Int32} {f g : Nat → Int32} {v : Nat} (hv : f v = x) (h2 : g v ≠ x) (e : ∀ w, w ≠ v → g w = f w) : ∀ n, v < n → nvx x g n = nvx x f n + 1 := by
  intro n
  induction n with
  | zero => intro h; omega
  | succ n ih =>
    intro h
    simp only [nvx]
    by_cases e9 : v = n
    · subst e9; rw [nvx_congr v (fun w hw => e w (by omega)), if_neg h2, if_pos hv]
    · rw [ih (by omega), e n (by omega)]; omega
theorem nvx_same {x : Int32} {f g : Nat → Int32} {v : Nat} (hv : f v ≠ x) (h2 : g v ≠ x) (e : ∀ w, w ≠ v → g w = f w) : ∀ n, nvx x g n = nvx x f n := by
  intro n
  induction n with
  | zero => rfl
  | succ n ih =>
    simp only [nvx]
    by_cases e9 : v = n
    · subst e9; rw [ih, if_neg h2, if_neg hv]
    · rw [ih, e n (by omega)]
theorem nvx_pos {x : Int32} {f : Nat → Int32} {v : Nat} (hv : f v ≠ x) : ∀ n, v < n → 1 ≤ nvx x f n := by
  intro n
  induction n with
  | zero => intro h; omega
  | succ n ih =>
    intro h
    simp only [nvx]
    by_cases e9 : v = n
    · subst e9; rw [if_neg hv]; omega
    · have := ih (by omega); omega
/-- sums of prices -/
def sPr (f : Nat → Int32) : Nat := sumN 12 (fun v => (f v).toInt.toNat)
theorem sPr_dec {f g : Nat → Int32} {v : Nat} (hv : v < 12) (e : ∀ q, q ≠ v → g q = f q) (h0 : 0 ≤ (g v).toInt) (h1 : (g v).toInt < (f v).toInt) : sPr g < sPr f :=
  sum_dec (f := fun v => (f v).toInt.toNat) (g := fun v => (g v).toInt.toNat) (h := v) (fun q hq => by show (g q).toInt.toNat = (f q).toInt.toNat; rw [e q hq]) (by show (g v).toInt.toNat < (f v).toInt.toNat; omega) 12 hv
/-- ways to the end: what is known of far -/
def FaO (f95 f96 f98 : Nat → Int32) (ar tN : Nat) (fa : Nat → Int32) : Prop := fa tN = 0 ∧ ∀ v, v < 12 → fa v = 536870912 ∨ (0 ≤ (fa v).toInt ∧ (fa v).toInt ≤ 64001 * ((nvx 536870912 fa 12 - 1 : Nat) : Int) ∧ (v = tN ∨ ∃ a y, a < ar ∧ y < 12 ∧ f95 a = nI v ∧ f96 a = nI y ∧ fa y ≠ 536870912 ∧ (fa y).toInt + 64 * (f98 a).toInt + 1 ≤ (fa v).toInt))
theorem FaO.bd {f95 f96 f98 : Nat → Int32} {ar tN : Nat} {fa : Nat → Int32} (h : FaO f95 f96 f98 ar tN fa) {v : Nat} (hv : v < 12) : 0 ≤ (fa v).toInt ∧ (fa v).toInt ≤ 536870912 ∧ (fa v ≠ 536870912 → (fa v).toInt ≤ 64001 * 11) := by
  have h0 := nvx_le 536870912 fa 12
  rcases h.2 v hv with h1 | ⟨h1, h2, _⟩
  · rw [h1]; exact ⟨by decide, by decide, fun h9 => absurd rfl h9⟩
  · have h3 : ((nvx 536870912 fa 12 - 1 : Nat) : Int) ≤ 11 := by omega
    exact ⟨h1, by omega, fun _ => by omega⟩
theorem FaO.relax {f95 f96 f98 : Nat → Int32} {ar tN : Nat} {fa fa2 : Nat → Int32} (h : FaO f95 f96 f98 ar tN fa) {a x y : Nat} (ha : a < ar) (ht : tN < 12) (hx : x < 12) (hy : y < 12) (hxy : x ≠ y) (e5 : f95 a = nI x) (e6 : f96 a = nI y) (hc : 0 ≤ (f98 a).toInt ∧ (f98 a).toInt ≤ 1000) (hfy : fa y ≠ 536870912) (hl : (fa y).toInt + 64 * (f98 a).toInt + 1 < (fa x).toInt) (e1 : (fa2 x).toInt = (fa y).toInt + 64 * (f98 a).toInt + 1) (e2 : ∀ w, w ≠ x → fa2 w = fa w) : FaO f95 f96 f98 ar tN fa2 ∧ sPr fa2 < sPr fa := by
  have by_ := h.bd hy
  have bx := h.bd hx
  have hFm : (536870912 : Int32).toInt = 536870912 := by decide
  have hn1 : fa2 x ≠ 536870912 := fun e9 => by rw [e9, hFm] at e1; have := by_.2.2 hfy; omega
  have hxt : x ≠ tN := fun e9 => by
    rw [e9, h.1] at hl
    have : (0 : Int32).toInt = 0 := by decide
    omega
  have hnn : nvx 536870912 fa 12 ≤ nvx 536870912 fa2 12 ∧ (fa x = 536870912 → nvx 536870912 fa2 12 = nvx 536870912 fa 12 + 1) := by
    by_cases e9 : fa x = 536870912
    · have := nvx_up e9 hn1 e2 12 hx; exact ⟨by omega, fun _ => this⟩
    · have := nvx_same e9 hn1 e2 12; exact ⟨by omega, fun h9 => absurd h9 e9⟩
  have hp1 := nvx_pos hfy 12 hy
  refine ⟨⟨by rw [e2 tN (fun e9 => hxt e9.symm)]; exact h.1, fun v hv => ?_⟩, sPr_dec hx e2 (by omega) (by omega)⟩
  by_cases ev : v = x
  · subst ev
    refine Or.inr ⟨by omega, ?_, Or.inr ⟨a, y, ha, hy, e5, e6, by rw [e2 y (fun e9 => hxy e9.symm)]; exact hfy, by rw [e2 y (fun e9 => hxy e9.symm)]; omega⟩⟩
    by_cases e9 : fa v = 536870912
    · rcases h.2 y hy with h1 | ⟨h1, h2, _⟩
      · exact absurd h1 hfy
      · have h3 := hnn.2 e9
        rw [h3]; omega
    · rcases h.2 v hv with h1 | ⟨h1, h2, _⟩
      · exact absurd h1 e9
      · omega
  · rw [e2 v ev]
    rcases h.2 v hv with h1 | ⟨h1, h2, h3⟩
    · exact Or.inl h1
    · refine Or.inr ⟨h1, by omega, h3.imp id (fun ⟨a', y', k1, k2, k3, k4, k5, k6⟩ => ⟨a', y', k1, k2, k3, k4, ?_, ?_⟩)⟩
      · by_cases e9 : y' = x
        · subst e9; exact hn1
        · rw [e2 y' e9]; exact k5
      · by_cases e9 : y' = x
        · subst e9; omega
        · rw [e2 y' e9]; exact k6
/-- no arc gives a shorter way -/
def FaC (f95 f96 f98 : Nat → Int32) (n : Nat) (fa : Nat → Int32) : Prop := ∀ a x y, a < n → x < 12 → y < 12 → f95 a = nI x → f96 a = nI y → fa y ≠ 536870912 → (fa x).toInt ≤ (fa y).toInt + 64 * (f98 a).toInt + 1
theorem mul64 {x : Int32} (h : 0 ≤ x.toInt ∧ x.toInt ≤ 1000) : (64 * x).toInt = 64 * x.toInt := by
  rw [Int32.toInt_mul, show (64 : Int32).toInt = 64 by decide]
  exact Int.bmod_eq_of_le (by omega) (by omega)
theorem FaO.init {f95 f96 f98 : Nat → Int32} {ar tN : Nat} {fa : Nat → Int32} (ht : tN < 12) (h : ∀ n, n < 12 → fa n = if n = tN then 0 else 536870912) : FaO f95 f96 f98 ar tN fa := by
  refine ⟨by rw [h tN ht, if_pos rfl], fun v hv => ?_⟩
  by_cases e : v = tN
  · refine Or.inr ⟨?_, ?_, Or.inl e⟩ <;> rw [h v hv, if_pos e]
    · decide
    · have : (0 : Int32).toInt = 0 := by decide
      rw [this]; omega
  · exact Or.inl (by rw [h v hv, if_neg e])
