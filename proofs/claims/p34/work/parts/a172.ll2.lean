/-- the nodes behind a node -/
def NxL (T : Nat → Int32) (n : Int) : Nat → Int
  | 0 => n
  | k + 1 => twL T (NxL T n k + 6)
/-- a run of just m nodes -/
def ChL (V : Int → Nat → Nat → Prop) (T : Nat → Int32) (n : Int) (m : Nat) : Prop := (∀ j : Nat, j < m → V (NxL T n j) 1 1) ∧ NxL T n m = 0
theorem ChL.lt {V : Int → Nat → Nat → Prop} {T : Nat → Int32} {n x i : Int} {m : Nat} (h : ChL V T n m) (hx : x = NxL T n i.toNat) (h0 : 0 ≤ i) (hi : i ≤ (m : Int)) (hz : ¬ x = 0) : i < (m : Int) := by
  by_cases h9 : i = (m : Int)
  · exfalso
    apply hz
    rw [hx, show i.toNat = m by omega]
    exact h.2
  · omega
theorem ChL.v {V : Int → Nat → Nat → Prop} {T : Nat → Int32} {n x i : Int} {m : Nat} (h : ChL V T n m) (hx : x = NxL T n i.toNat) (h0 : 0 ≤ i) (hi : i < (m : Int)) : V x 1 1 := by
  rw [hx]; exact h.1 _ (by omega)
theorem ChL.end {V : Int → Nat → Nat → Prop} {T : Nat → Int32} {n x i lo u : Int} {m : Nat} {fk fo fw : Nat → Int32} {nm : Int} (hV : TrL V T fk fo fw nm lo u) (h : ChL V T n m) (hx : x = NxL T n i.toNat) (h0 : 0 ≤ i) (hi : i ≤ (m : Int)) (hz : x = 0) : i = (m : Int) := by
  by_cases h9 : i < (m : Int)
  · have := (hV.rng (h.v hx h0 h9)).2.1
    omega
  · omega
theorem NxL.s {T : Nat → Int32} {n x i v : Int} (hx : x = NxL T n i.toNat) (h0 : 0 ≤ i) (hv : v = twL T (x + 6)) : v = NxL T n (i + 1).toNat := by
  rw [show (i + 1).toNat = i.toNat + 1 by omega, hv, hx]; rfl
