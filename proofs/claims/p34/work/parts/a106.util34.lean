theorem by_f {b : Int32} {a : Nat} (h : b.toInt = (a : Int) + 1) (ha : a < 40) : b - 1 = nI a := by
  refine Int32.toInt_inj.mp ?_
  rw [nI_toInt (by omega), subB (by omega) (by decide), h]
  have : (1 : Int32).toInt = 1 := by decide
  omega
theorem by_b {b : Int32} {a : Nat} (h : b.toInt = -((a : Int) + 1)) (ha : a < 40) : -b - 1 = nI a := by
  have h1 := (neg32 (x := b) (b := 100) (by omega) (by decide)).2
  refine Int32.toInt_inj.mp ?_
  rw [nI_toInt (by omega), subB (by omega) (by decide), h1, h]
  have : (1 : Int32).toInt = 1 := by decide
  omega
/-- what an arc has room for, in its way -/
def rsd (f97 f99 : Nat → Int32) (b : Int32) (a : Nat) : Int := if 0 < b.toInt then (f97 a).toInt - (f99 a).toInt else (f99 a).toInt
/-- places that were passed: each has room for n, and leads to one that was passed, or to v -/
def VsO (f95 f96 f97 f98 f99 : Nat → Int32) (ar sN : Nat) (pr bY : Nat → Int32) (rk : Nat → Nat) (V : Nat → Prop) (n : Int) (v : Nat) : Prop := ∀ w, V w → w < 12 ∧ pr w ≠ 536870912 ∧ w ≠ sN ∧ ∃ u a c, u < 12 ∧ Lk f95 f96 f97 f98 f99 ar (bY w) w u a c ∧ rk u < rk w ∧ n ≤ rsd f97 f99 (bY w) a ∧ (V u ∨ u = v)
theorem VsO.next {f95 f96 f97 f98 f99 : Nat → Int32} {ar sN : Nat} {pr bY : Nat → Int32} {rk : Nat → Nat} {V : Nat → Prop} {n n2 : Int} {v u a : Nat} {c : Int} (h : VsO f95 f96 f97 f98 f99 ar sN pr bY rk V n v) (hv : v < 12) (hl : pr v ≠ 536870912) (hs : v ≠ sN) (hu : u < 12) (hk : Lk f95 f96 f97 f98 f99 ar (bY v) v u a c) (hr : rk u < rk v) (h1 : n2 ≤ n) (h2 : n2 ≤ rsd f97 f99 (bY v) a) : VsO f95 f96 f97 f98 f99 ar sN pr bY rk (fun w => V w ∨ w = v) n2 u := by
  intro w hw
  rcases hw with hw | hw
  · obtain ⟨k1, k2, k3, u', a', c', k4, k5, k6, k7, k8⟩ := h w hw
    exact ⟨k1, k2, k3, u', a', c', k4, k5, k6, by omega, Or.inl k8⟩
  · subst hw; exact ⟨hv, hl, hs, u, a, c, hu, hk, hr, h2, Or.inr rfl⟩
