/-- a limb, or nought behind the last -/
def la28 (f : Nat → Int32) (o n q : Nat) : Int := if q < n then (f (o + q)).toInt else 0
theorem la28_sum {f : Nat → Int32} {o n : Nat} (h : Lm f o n) (w : Nat) {gs : Nat → Int64} (hg : ∀ q, q < w → (gs q).toInt = la28 f o n q) (hw : n ≤ w) : sv28 gs w = ((lv28 f o n : Nat) : Int) := by
  have key : ∀ w, (∀ q, q < w → (gs q).toInt = la28 f o n q) → sv28 gs w = ((lv28 f o (if w ≤ n then w else n) : Nat) : Int) := by
    intro w
    induction w with
    | zero => intro _; simp [sv28, lv28]
    | succ w ih =>
      intro hg
      simp only [sv28]
      rw [ih (fun q hq => hg q (by omega)), hg w (by omega)]
      unfold la28
      by_cases hwn : w < n
      · rw [if_pos hwn, if_pos (by omega), if_pos (by omega)]
        obtain ⟨d, hd, e⟩ := h w hwn
        simp only [lv28]
        rw [e, nI_toInt (by omega), nI_clamp (by omega), Int.natCast_add, Int.natCast_mul]
      · rw [if_neg hwn, Int.zero_mul, Int.add_zero, if_neg (show ¬ w + 1 ≤ n by omega)]
        by_cases e : w = n
        · rw [e, if_pos (Nat.le_refl n)]
        · rw [if_neg (by omega)]
  rw [key w hg]
  by_cases e : w = n
  · rw [e, if_pos (Nat.le_refl n)]
  · rw [if_neg (by omega)]
theorem sv28_lin (gs ga gb : Nat → Int64) (ca cb : Int) (w : Nat) (h : ∀ q, q < w → (gs q).toInt = ca * (ga q).toInt + cb * (gb q).toInt) : sv28 gs w = ca * sv28 ga w + cb * sv28 gb w := by
  induction w with
  | zero => simp [sv28]
  | succ w ih =>
    simp only [sv28]
    rw [ih (fun q hq => h q (by omega)), h w (by omega), Int.add_mul, Int.mul_add, Int.mul_add, Int.mul_assoc, Int.mul_assoc]
    omega
theorem sum28 {f : Nat → Int32} {oa ob na nb w : Nat} (ha : Lm f oa na) (hb : Lm f ob nb) (h1 : na ≤ w) (h2 : nb ≤ w) {gs : Nat → Int64} {ca cb : Int} (h : ∀ q, q < w → (gs q).toInt = ca * la28 f oa na q + cb * la28 f ob nb q) : sv28 gs w = ca * ((lv28 f oa na : Nat) : Int) + cb * ((lv28 f ob nb : Nat) : Int) := by
  have bd : ∀ (o n : Nat), Lm f o n → ∀ q, (Int64.ofInt (la28 f o n q)).toInt = la28 f o n q := fun o n hL q => by
    rw [Int64.toInt_ofInt]
    unfold la28
    by_cases e : q < n
    · rw [if_pos e]
      have := limb_lt hL e
      have hz : Int64.size = 18446744073709551616 := rfl
      exact Int.bmod_eq_of_le (by omega) (by omega)
    · rw [if_neg e]; rfl
  rw [← la28_sum ha w (gs := fun q => Int64.ofInt (la28 f oa na q)) (fun q _ => bd oa na ha q) h1, ← la28_sum hb w (gs := fun q => Int64.ofInt (la28 f ob nb q)) (fun q _ => bd ob nb hb q) h2]
  exact sv28_lin gs _ _ ca cb w (fun q hq => by rw [bd oa na ha, bd ob nb hb]; exact h q hq)
theorem la_bd {f : Nat → Int32} {o n : Nat} (h : Lm f o n) (q : Nat) : 0 ≤ la28 f o n q ∧ la28 f o n q < 268435456 := by
  unfold la28
  by_cases e : q < n
  · rw [if_pos e]; have := limb_lt h e; omega
  · rw [if_neg e]; omega
/-- the product of two signs -/
theorem sgMul {x y : Int32} {X Y : Int} (hx : (X = 0 ∧ x.toInt = 0) ∨ (0 < X ∧ x.toInt = 1) ∨ (X < 0 ∧ x.toInt = -1)) (hy : (Y = 0 ∧ y.toInt = 0) ∨ (0 < Y ∧ y.toInt = 1) ∨ (Y < 0 ∧ y.toInt = -1)) :
    ((x * y).toInt < 0 ∧ ((0 < X ∧ Y < 0) ∨ (X < 0 ∧ 0 < Y))) ∨ (0 ≤ (x * y).toInt ∧ ¬ ((0 < X ∧ Y < 0) ∨ (X < 0 ∧ 0 < Y))) := by
  have h : (x * y).toInt = x.toInt * y.toInt := by
    rw [Int32.toInt_mul]
    rcases hx with ⟨_, h⟩ | ⟨_, h⟩ | ⟨_, h⟩ <;> rcases hy with ⟨_, h'⟩ | ⟨_, h'⟩ | ⟨_, h'⟩ <;> rw [h, h'] <;> rfl
  rcases hx with ⟨a, b⟩ | ⟨a, b⟩ | ⟨a, b⟩ <;> rcases hy with ⟨c, d⟩ | ⟨c, d⟩ | ⟨c, d⟩ <;> rw [b, d] at h <;> omega
theorem sgTimes {x y : Int32} {X Y : Int} (hx : (X = 0 ∧ x.toInt = 0) ∨ (0 < X ∧ x.toInt = 1) ∨ (X < 0 ∧ x.toInt = -1)) (hy : (Y = 1 ∧ y = 1) ∨ (Y = -1 ∧ y = -1)) : (Y * X = 0 ∧ (x * y).toInt = 0) ∨ (0 < Y * X ∧ (x * y).toInt = 1) ∨ (Y * X < 0 ∧ (x * y).toInt = -1) := by
  have h : (x * y).toInt = x.toInt * y.toInt := by
    rw [Int32.toInt_mul]
    rcases hy with ⟨_, h'⟩ | ⟨_, h'⟩ <;> rw [h'] <;> rcases hx with ⟨_, h⟩ | ⟨_, h⟩ | ⟨_, h⟩ <;> rw [h] <;> rfl
  rcases hy with ⟨c, d⟩ | ⟨c, d⟩
  · rw [d] at h ⊢; rw [c]; have e : (1 : Int32).toInt = 1 := by decide
    rw [e] at h; omega
  · rw [d] at h ⊢; rw [c]; have e : (-1 : Int32).toInt = -1 := by decide
    rw [e] at h; omega
theorem of1 {x : Int32} (h : x.toInt = 1) : x = 1 := Int32.toInt_inj.mp (by rw [h]; decide)
theorem ofm1 {x : Int32} (h : x.toInt = -1) : x = -1 := Int32.toInt_inj.mp (by rw [h]; decide)
theorem i64T (x : Int32) : x.toInt64.toInt = x.toInt := Int32.toInt_toInt64 x
theorem subJ {x y : Int64} (hx : -2305843009213693952 ≤ x.toInt ∧ x.toInt ≤ 2305843009213693952) (hy : -2305843009213693952 ≤ y.toInt ∧ y.toInt ≤ 2305843009213693952) : (x - y).toInt = x.toInt - y.toInt := by
  rw [Int64.toInt_sub]
  exact Int.bmod_eq_of_le (by omega) (by omega)
