theorem sv28_congr {f g : Nat → Int64} {w : Nat} (h : ∀ q, q < w → (f q).toInt = (g q).toInt) : sv28 f w = sv28 g w := by
  induction w with
  | zero => rfl
  | succ w ih => simp only [sv28]; rw [ih (fun q hq => h q (by omega)), h w (by omega)]
theorem sv28_upd {gs : Nat → Int64} {p w : Nat} {x : Int64} (hp : p < w) (hp2 : p < 2 ^ 31) : sv28 (vp_updL gs (nI p).toNatClampNeg x) w = sv28 gs w + (x.toInt - (gs p).toInt) * ((2 ^ (28 * p) : Nat) : Int) := by
  induction w with
  | zero => omega
  | succ w ih =>
    simp only [sv28]
    by_cases e : p = w
    · subst e
      rw [sv28_congr (g := gs) (fun q hq => by rw [updL_at hp2, if_neg (by omega)]), updL_at hp2, if_pos rfl, Int.sub_mul]
      omega
    · rw [ih (by omega), updL_at hp2, if_neg (by omega)]
      omega
theorem mulJ {x y : Int32} (hx : 0 ≤ x.toInt ∧ x.toInt < 268435456) (hy : 0 ≤ y.toInt ∧ y.toInt < 268435456) : (x.toInt64 * y.toInt64).toInt = x.toInt * y.toInt ∧ 0 ≤ x.toInt * y.toInt ∧ x.toInt * y.toInt ≤ 268435455 * 268435455 := by
  have h1 : 0 ≤ x.toInt * y.toInt := Int.mul_nonneg hx.1 hy.1
  have h2 : x.toInt * y.toInt ≤ 268435455 * 268435455 := Int.mul_le_mul (by omega) (by omega) hy.1 (by omega)
  refine ⟨?_, h1, h2⟩
  rw [Int64.toInt_mul, i64T, i64T]
  exact Int.bmod_eq_of_le (by omega) (by omega)
theorem sv28_zero {gs : Nat → Int64} {w : Nat} (h : ∀ q, q < w → gs q = 0) : sv28 gs w = 0 := by
  induction w with
  | zero => rfl
  | succ w ih =>
    simp only [sv28]
    rw [ih (fun q hq => h q (by omega)), h w (by omega)]
    have e : (0 : Int64).toInt = 0 := by decide
    rw [e]; simp
/-- a limb more of the product's row -/
theorem tm_step {S S0 v x ab ov A B1 b : Int} {P i j : Nat} (hv : v = x + ab + ov) (hab : ab = A * b)
    (h : S + ov * ((2 ^ (28 * (i + j)) : Nat) : Int) = S0 + A * B1 * ((2 ^ (28 * i) : Nat) : Int)) :
    S + (v % 268435456 - x) * ((2 ^ (28 * (i + j)) : Nat) : Int) + v / 268435456 * ((2 ^ (28 * (i + (j + 1))) : Nat) : Int) = S0 + A * (B1 + b * ((2 ^ (28 * j) : Nat) : Int)) * ((2 ^ (28 * i) : Nat) : Int) := by
  have e1 : ((2 ^ (28 * (i + (j + 1))) : Nat) : Int) = 268435456 * ((2 ^ (28 * (i + j)) : Nat) : Int) := by
    rw [show 28 * (i + (j + 1)) = 28 + 28 * (i + j) by omega, Nat.pow_add, Int.natCast_mul]; rfl
  have e2 : ((2 ^ (28 * (i + j)) : Nat) : Int) = ((2 ^ (28 * i) : Nat) : Int) * ((2 ^ (28 * j) : Nat) : Int) := by
    rw [show 28 * (i + j) = 28 * i + 28 * j by omega, Nat.pow_add, Int.natCast_mul]
  rw [e1]
  have e3 : v = v % 268435456 + 268435456 * (v / 268435456) := by omega
  generalize hX : ((2 ^ (28 * (i + j)) : Nat) : Int) = X at *
  have e4 : (v % 268435456 - x) * X + v / 268435456 * (268435456 * X) = (v - x) * X := by
    have : v / 268435456 * (268435456 * X) = (268435456 * (v / 268435456)) * X := by rw [← Int.mul_assoc, Int.mul_comm (v / 268435456)]
    rw [this, ← Int.add_mul]; congr 1; omega
  rw [Int.add_assoc, e4, hv, show x + ab + ov - x = ab + ov by omega, Int.add_mul, Int.mul_add, Int.add_mul, ← Int.add_assoc, Int.add_right_comm, h, Int.add_assoc]
  congr 1
  congr 1
  rw [hab, e2, Int.mul_assoc, Int.mul_assoc, Int.mul_assoc, Int.mul_comm ((2 ^ (28 * i) : Nat) : Int)]
theorem lv28_int {f : Nat → Int32} {o n : Nat} (h : Lm f o (n + 1)) : ((lv28 f o (n + 1) : Nat) : Int) = ((lv28 f o n : Nat) : Int) + (f (o + n)).toInt * ((2 ^ (28 * n) : Nat) : Int) := by
  have := limb_lt h (q := n) (by omega)
  simp only [lv28]
  rw [Int.natCast_add, Int.natCast_mul, this.2.2]
  congr 2
  omega
theorem Lm.mono {f : Nat → Int32} {o n m : Nat} (h : Lm f o n) (hm : m ≤ n) : Lm f o m := fun q hq => h q (by omega)
theorem few22 {f g : Nat → Int32} {o p n m : Nat} (hf : Lm f o n) (hg : Lm g p m) (tf : 0 < n → f (o + (n - 1)) ≠ 0) (tg : 0 < m → g (p + (m - 1)) ≠ 0) (hn : n ≤ 22) (hm : m ≤ 22) (h : lv28 f o n * lv28 g p m < 2 ^ 588) (h0 : 0 < n) (h1 : 0 < m) : n + m ≤ 22 := by
  obtain ⟨a, rfl⟩ : ∃ a, n = a + 1 := ⟨n - 1, by omega⟩
  obtain ⟨b, rfl⟩ : ∃ b, m = b + 1 := ⟨m - 1, by omega⟩
  have e1 := lv28_ge hf (by simpa using tf)
  have e2 := lv28_ge hg (by simpa using tg)
  have e3 := Nat.mul_le_mul e1 e2
  rw [← Nat.pow_add] at e3
  have e4 : 2 ^ (28 * a + 28 * b) < 2 ^ 588 := Nat.lt_of_le_of_lt e3 h
  have e5 := (Nat.pow_lt_pow_iff_right (a := 2) (by omega)).mp e4
  omega
theorem sgProd {x y : Int32} {X Y : Int} (hx : (X = 0 ∧ x.toInt = 0) ∨ (0 < X ∧ x.toInt = 1) ∨ (X < 0 ∧ x.toInt = -1)) (hy : (Y = 0 ∧ y.toInt = 0) ∨ (0 < Y ∧ y.toInt = 1) ∨ (Y < 0 ∧ y.toInt = -1)) (h : 0 < X.natAbs * Y.natAbs) :
    ((if X * Y < 0 then (-1 : Int) else 1) = 1 ∧ x * y = 1) ∨ ((if X * Y < 0 then (-1 : Int) else 1) = -1 ∧ x * y = -1) := by
  have e : (x * y).toInt = x.toInt * y.toInt := by
    rw [Int32.toInt_mul]
    rcases hx with ⟨_, h⟩ | ⟨_, h⟩ | ⟨_, h⟩ <;> rcases hy with ⟨_, h'⟩ | ⟨_, h'⟩ | ⟨_, h'⟩ <;> rw [h, h'] <;> rfl
  rcases hx with ⟨a, b⟩ | ⟨a, b⟩ | ⟨a, b⟩
  · subst a; simp at h
  · rcases hy with ⟨c, d⟩ | ⟨c, d⟩ | ⟨c, d⟩
    · subst c; simp at h
    · exact Or.inl ⟨if_neg (by have := Int.mul_pos a c; omega), of1 (by rw [e, b, d]; rfl)⟩
    · exact Or.inr ⟨if_pos (Int.mul_neg_of_pos_of_neg a c), ofm1 (by rw [e, b, d]; rfl)⟩
  · rcases hy with ⟨c, d⟩ | ⟨c, d⟩ | ⟨c, d⟩
    · subst c; simp at h
    · exact Or.inr ⟨if_pos (Int.mul_neg_of_neg_of_pos a c), ofm1 (by rw [e, b, d]; rfl)⟩
    · exact Or.inl ⟨if_neg (by have := Int.mul_pos_of_neg_of_neg a c; omega), of1 (by rw [e, b, d]; rfl)⟩
theorem sgn_abs (X Y : Int) : (if X * Y < 0 then (-1 : Int) else 1) * (((X.natAbs * Y.natAbs : Nat)) : Int) = X * Y := by
  rw [← Int.natAbs_mul]
  split <;> omega
