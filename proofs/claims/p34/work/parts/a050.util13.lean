theorem ratio {a b d x y z : Int} (hx : 0 < x) (hy : 0 < y) (hz : 0 < z) (h1 : a * y ≤ b * x) (h2 : b * z ≤ d * y) : a * z ≤ d * x ∧ ((a * y < b * x ∨ b * z < d * y) → a * z < d * x) := by
  have e1 : a * y * z ≤ b * x * z := Int.mul_le_mul_of_nonneg_right h1 (by omega)
  have e2 : b * z * x ≤ d * y * x := Int.mul_le_mul_of_nonneg_right h2 (by omega)
  have k1 : b * x * z = b * z * x := by rw [Int.mul_assoc, Int.mul_comm x z, ← Int.mul_assoc]
  have k2 : a * y * z = a * z * y := by rw [Int.mul_assoc, Int.mul_comm y z, ← Int.mul_assoc]
  have k3 : d * y * x = d * x * y := by rw [Int.mul_assoc, Int.mul_comm y x, ← Int.mul_assoc]
  refine ⟨Int.le_of_mul_le_mul_right (by omega : a * z * y ≤ d * x * y) hy, fun h => ?_⟩
  rcases h with h | h
  · have e3 : a * y * z < b * x * z := Int.mul_lt_mul_of_pos_right h hz
    exact Int.lt_of_mul_lt_mul_right (by omega : a * z * y < d * x * y) (by omega)
  · have e3 : b * z * x < d * y * x := Int.mul_lt_mul_of_pos_right h hx
    exact Int.lt_of_mul_lt_mul_right (by omega : a * z * y < d * x * y) (by omega)
/-- b is the best of the rows below k -/
def Bst (t : Nat → Nat → Int) (C c : Nat) (lab : Nat → Nat) (k b : Nat) : Prop := 0 < t b c ∧ ∀ i, i < k → 0 < t i c → t b C * t i c < t i C * t b c ∨ (t b C * t i c = t i C * t b c ∧ lab b ≤ lab i)
theorem Bst.skip {t : Nat → Nat → Int} {C c : Nat} {lab : Nat → Nat} {k b : Nat} (h : Bst t C c lab k b) (hk : t k c ≤ 0) : Bst t C c lab (k + 1) b :=
  ⟨h.1, fun i hi hp => by
    by_cases e : i = k
    · subst e; omega
    · exact h.2 i (by omega) hp⟩
theorem Bst.keep {t : Nat → Nat → Int} {C c : Nat} {lab : Nat → Nat} {k b : Nat} (h : Bst t C c lab k b) (hk : t b C * t k c < t k C * t b c ∨ (t b C * t k c = t k C * t b c ∧ lab b ≤ lab k)) : Bst t C c lab (k + 1) b :=
  ⟨h.1, fun i hi hp => by
    by_cases e : i = k
    · subst e; exact hk
    · exact h.2 i (by omega) hp⟩
theorem Bst.first {t : Nat → Nat → Int} {C c : Nat} {lab : Nat → Nat} {k : Nat} (h : ∀ i, i < k → t i c ≤ 0) (hk : 0 < t k c) : Bst t C c lab (k + 1) k :=
  ⟨hk, fun i hi hp => by
    by_cases e : i = k
    · subst e; exact Or.inr ⟨rfl, Nat.le_refl _⟩
    · have := h i (by omega); omega⟩
theorem Bst.new {t : Nat → Nat → Int} {C c : Nat} {lab : Nat → Nat} {k b : Nat} (h : Bst t C c lab k b) (hp : 0 < t k c) (hk : t k C * t b c < t b C * t k c ∨ (t k C * t b c = t b C * t k c ∧ lab k ≤ lab b)) : Bst t C c lab (k + 1) k :=
  ⟨hp, fun i hi hpi => by
    by_cases e : i = k
    · subst e; exact Or.inr ⟨rfl, Nat.le_refl _⟩
    · have h1 := h.2 i (by omega) hpi
      have r := ratio (a := t k C) (b := t b C) (d := t i C) (x := t k c) (y := t b c) (z := t i c) hp h.1 hpi (by omega) (by omega)
      rcases hk with hk | hk
      · exact Or.inl (r.2 (Or.inl hk))
      · rcases h1 with h1 | h1
        · exact Or.inl (r.2 (Or.inr h1))
        · have r1 := r.1
          rcases Int.lt_or_eq_of_le r1 with h2 | h2
          · exact Or.inl h2
          · exact Or.inr ⟨h2, by omega⟩⟩
def gl (C q : Nat) : Nat := if q < C then q else q + 1
theorem gl_le {C p q : Nat} (h : p ≤ q) : gl C p ≤ gl C q := by unfold gl; split <;> split <;> omega
theorem gl_inj {C p q : Nat} (h : gl C p = gl C q) : p = q := by unfold gl at h; split at h <;> split at h <;> omega
theorem gl_ne (C q : Nat) : gl C q ≠ C := by unfold gl; split <;> omega
/-- the labels that the program holds: those of rows and columns -/
def rlF (C R : Nat) (f : Nat → Int32) : Nat → Nat := fun i => if i < R then gl C (f i).toNatClampNeg else C + 1 + i
def clF (C : Nat) (f : Nat → Int32) : Nat → Nat := fun j => if j < C then gl C (f j).toNatClampNeg else C
def Sx (C R T : Nat) (a t : Nat → Nat → Int) (D : Int) (f4 f5 : Nat → Int32) : Prop := SxF C R T a t D (rlF C R f5) (clF C f4) ∧ (∀ j, j < C → ∃ q, q < C + T ∧ f4 j = nI q) ∧ ∀ i, i < R → ∃ q, q < C + T ∧ f5 i = nI q
theorem Sx.next {C R T : Nat} {a t : Nat → Nat → Int} {D : Int} {f4 f5 : Nat → Int32} (h : Sx C R T a t D f4 f5) {r c : Nat} (hr : r < R) (hRT : R ≤ T) (hc : c < C) (hT : T < 60) (hC : C ≤ 45) {g : Int} (hg : g = 1 ∨ g = -1) (hp : 0 < g * t r c) :
    Sx C R T a (nvT r c g t D) (g * t r c) (upd f4 (nI c).toNatClampNeg (f5 r)) (upd f5 (nI r).toNatClampNeg (f4 c)) ∧ Piv T (C + 1) (t, D, rlF C R f5, clF C f4) (nvT r c g t D, g * t r c, rlF C R (upd f5 (nI r).toNatClampNeg (f4 c)), clF C (upd f4 (nI c).toNatClampNeg (f5 r))) r c g := by
  obtain ⟨h1, h2, h3⟩ := h
  have e1 : rlF C R (upd f5 (nI r).toNatClampNeg (f4 c)) = uP (rlF C R f5) r (clF C f4 c) := by
    funext i
    unfold rlF uP clF
    rw [upd_at (by omega)]
    by_cases e : i = r
    · rw [if_pos (by omega), if_pos e, if_pos e, if_pos hc]
    · rw [if_neg e, if_neg e]
  have e2 : clF C (upd f4 (nI c).toNatClampNeg (f5 r)) = uP (clF C f4) c (rlF C R f5 r) := by
    funext j
    unfold rlF uP clF
    rw [upd_at (by omega)]
    by_cases e : j = c
    · rw [if_pos (by omega), if_pos e, if_pos e, if_pos hr]
    · rw [if_neg e, if_neg e]
  have hn := h1.next hr hRT hc hg hp
  rw [e1, e2]
  unfold Sx
  rw [e1, e2]
  refine ⟨⟨hn.1, fun j hj => ?_, fun i hi => ?_⟩, hn.2⟩
  · rw [upd_at (by omega)]; split
    · exact h3 r hr
    · exact h2 j hj
  · rw [upd_at (by omega)]; split
    · exact h2 c hc
    · exact h3 i hi
/-- every tableau that belongs to a stays small -/
def Small (C R T : Nat) (a : Nat → Nat → Int) : Prop := ∀ t D rl cl, SxF C R T a t D rl cl → D.natAbs < 2 ^ 294 ∧ ∀ i, i < T → ∀ j, j ≤ C → (t i j).natAbs < 2 ^ 294
