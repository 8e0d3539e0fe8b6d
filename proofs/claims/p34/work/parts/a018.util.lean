theorem toL_eq {x y : Int64} {X Y : Int} (h : lg_cmp x y = 0) (hx : x.toInt = X) (hy : y.toInt = Y) : X = Y := by subst hx; subst hy; rw [(lg_cmp_eq x y).mp h]
theorem toL_neq {x y : Int64} {X Y : Int} (h : ¬ lg_cmp x y = 0) (hx : x.toInt = X) (hy : y.toInt = Y) : ¬ X = Y := by subst hx; subst hy; exact fun e => h ((lg_cmp_eq x y).mpr (Int64.toInt_inj.mp e))
theorem toL_ne {x y : Int64} {X Y : Int} (h : ¬ lg_cmp x y = 0) (hx : x.toInt = X) (hy : y.toInt = Y) : X ≠ Y := toL_neq h hx hy
theorem toL_nne {x y : Int64} {X Y : Int} (h : lg_cmp x y = 0) (hx : x.toInt = X) (hy : y.toInt = Y) : X = Y := toL_eq h hx hy
theorem toL_lt {x y : Int64} {X Y : Int} (h : lg_cmp x y < 0) (hx : x.toInt = X) (hy : y.toInt = Y) : X < Y := by subst hx; subst hy; exact Int64.lt_iff_toInt_lt.mp ((lg_cmp_lt x y).mp h)
theorem toL_nlt {x y : Int64} {X Y : Int} (h : ¬ lg_cmp x y < 0) (hx : x.toInt = X) (hy : y.toInt = Y) : ¬ X < Y := by subst hx; subst hy; exact fun e => h ((lg_cmp_lt x y).mpr (Int64.lt_iff_toInt_lt.mpr e))
theorem toL_le {x y : Int64} {X Y : Int} (h : lg_cmp x y ≤ 0) (hx : x.toInt = X) (hy : y.toInt = Y) : X ≤ Y := by subst hx; subst hy; exact Int64.le_iff_toInt_le.mp ((lg_cmp_le x y).mp h)
theorem toL_nle {x y : Int64} {X Y : Int} (h : ¬ lg_cmp x y ≤ 0) (hx : x.toInt = X) (hy : y.toInt = Y) : ¬ X ≤ Y := by subst hx; subst hy; exact fun e => h ((lg_cmp_le x y).mpr (Int64.le_iff_toInt_le.mpr e))
theorem toL_ge {x y : Int64} {X Y : Int} (h : 0 ≤ lg_cmp x y) (hx : x.toInt = X) (hy : y.toInt = Y) : X ≥ Y := by subst hx; subst hy; exact Int64.le_iff_toInt_le.mp ((lg_cmp_ge x y).mp h)
theorem toL_nge {x y : Int64} {X Y : Int} (h : ¬ 0 ≤ lg_cmp x y) (hx : x.toInt = X) (hy : y.toInt = Y) : ¬ X ≥ Y := by subst hx; subst hy; exact fun e => h ((lg_cmp_ge x y).mpr (Int64.le_iff_toInt_le.mpr e))
theorem toL_gt {x y : Int64} {X Y : Int} (h : 0 < lg_cmp x y) (hx : x.toInt = X) (hy : y.toInt = Y) : X > Y := by subst hx; subst hy; exact Int64.lt_iff_toInt_lt.mp ((lg_cmp_gt x y).mp h)
theorem toL_ngt {x y : Int64} {X Y : Int} (h : ¬ 0 < lg_cmp x y) (hx : x.toInt = X) (hy : y.toInt = Y) : ¬ X > Y := by subst hx; subst hy; exact fun e => h ((lg_cmp_gt x y).mpr (Int64.lt_iff_toInt_lt.mpr e))
theorem updL_at {f : Nat → Int64} {i : Nat} {x : Int64} (hi : i < 2 ^ 31) (j : Nat) : vp_updL f (nI i).toNatClampNeg x j = if j = i then x else f j := by
  rw [nI_clamp hi]; rfl
/-- the number that n limbs of 28 bits make, from o on -/
def lv28 (f : Nat → Int32) (o : Nat) : Nat → Nat
  | 0 => 0
  | n + 1 => lv28 f o n + (f (o + n)).toNatClampNeg * 2 ^ (28 * n)
theorem lv28_congr {f g : Nat → Int32} {o p n : Nat} (h : ∀ q, q < n → f (o + q) = g (p + q)) : lv28 f o n = lv28 g p n := by
  induction n with
  | zero => rfl
  | succ n ih => simp only [lv28]; rw [ih (fun q hq => h q (by omega)), h n (by omega)]
/-- limbs lie in 0 .. 2^28 - 1 -/
def Lm (f : Nat → Int32) (o n : Nat) : Prop := ∀ q, q < n → ∃ d, d < 268435456 ∧ f (o + q) = nI d
theorem lv28_lt {f : Nat → Int32} {o n : Nat} (h : Lm f o n) : lv28 f o n < 2 ^ (28 * n) := by
  induction n with
  | zero => simp [lv28]
  | succ n ih =>
    obtain ⟨d, hd, e⟩ := h n (by omega)
    have h1 := ih (fun q hq => h q (by omega))
    simp only [lv28]
    rw [e, nI_clamp (by omega), show 28 * (n + 1) = 28 * n + 28 by omega, Nat.pow_add]
    have h2 : d * 2 ^ (28 * n) + 2 ^ (28 * n) ≤ 2 ^ (28 * n) * 2 ^ 28 := by
      rw [← Nat.succ_mul, Nat.mul_comm (2 ^ (28 * n))]
      exact Nat.mul_le_mul_right _ (by omega)
    omega
/-- slot s holds the whole number x -/
def Nu (f : Nat → Int32) (s : Nat) (x : Int) : Prop := ∃ n, n ≤ 22 ∧ f (24 * s + 1) = nI n ∧ Lm f (24 * s + 2) n ∧ (0 < n → f (24 * s + 1 + n) ≠ 0) ∧ (x.natAbs = lv28 f (24 * s + 2) n) ∧ ((x = 0 ∧ f (24 * s) = 0) ∨ (0 < x ∧ f (24 * s) = 1) ∨ (x < 0 ∧ f (24 * s) = -1))
theorem Nu.congr {f g : Nat → Int32} {s p : Nat} {x : Int} (h : Nu f p x) {n : Nat} (hn : f (24 * p + 1) = nI n) (hn22 : n ≤ 22) (e : ∀ q, q < n + 2 → g (24 * s + q) = f (24 * p + q)) : Nu g s x := by
  obtain ⟨n', a1, a2, a3, a4, a5, a6⟩ := h
  have en : n' = n := (nI_eq (by omega) (by omega)).mp (a2.symm.trans hn)
  subst en
  refine ⟨n', a1, ?_, ?_, ?_, ?_, ?_⟩
  · rw [e 1 (by omega)]; exact a2
  · intro q hq
    obtain ⟨d, hd, e1⟩ := a3 q hq
    exact ⟨d, hd, by rw [show 24 * s + 2 + q = 24 * s + (2 + q) by omega, e (2 + q) (by omega), ← Nat.add_assoc]; exact e1⟩
  · intro h0
    rw [show 24 * s + 1 + n' = 24 * s + (1 + n') by omega, e (1 + n') (by omega), ← Nat.add_assoc]; exact a4 h0
  · rw [a5]
    exact lv28_congr fun q hq => by rw [show 24 * s + 2 + q = 24 * s + (2 + q) by omega, e (2 + q) (by omega), ← Nat.add_assoc]
  · have := e 0 (by omega)
    rw [Nat.add_zero, Nat.add_zero] at this
    rw [this]; exact a6
theorem mask28 {n : Nat} (h : n < 2 ^ 63) : lN n &&& 268435455 = lN (n % 268435456) := by
  apply Int64.toBitVec_inj.mp
  apply BitVec.eq_of_toNat_eq
  have h1 : (lN n).toBitVec.toNat = n := Nat.mod_eq_of_lt (by omega)
  have h2 : (lN (n % 268435456)).toBitVec.toNat = n % 268435456 := Nat.mod_eq_of_lt (by omega)
  rw [Int64.toBitVec_and, BitVec.toNat_and, h1, h2]
  exact Nat.and_two_pow_sub_one_eq_mod n 28
theorem shr28 {n : Nat} (h : n < 2 ^ 63) : lN n >>> ((28 : Int32).toInt64 &&& 63) = lN (n / 268435456) := by
  have hd : n / 268435456 ≤ n := Nat.div_le_self _ _
  apply Int64.toInt_inj.mp
  have e : (lN n >>> ((28 : Int32).toInt64 &&& 63)).toInt = (lN n).toInt >>> 28 := BitVec.toInt_sshiftRight ..
  rw [e, Int.shiftRight_eq_div_pow, pk_lT (by omega), pk_lT (by omega)]
  rfl
theorem posL {x : Int64} (h : 0 ≤ x.toInt) : x = lN x.toInt.natAbs := by
  apply Int64.toInt_inj.mp
  have h2 : x.toInt < 2 ^ 63 := by have := Int64.toInt_lt x; omega
  rw [pk_lT (by omega)]; omega
theorem negL {x : Int64} (h : x.toInt < 0) (h2 : -9223372036854775808 < x.toInt) : -x = lN x.toInt.natAbs := by
  apply Int64.toInt_inj.mp
  rw [pk_lT (by omega), Int64.toInt_neg]
  rw [Int.bmod_eq_of_le (by omega) (by omega)]
  omega
theorem lv28_top {r n v : Nat} (h : v + r * 2 ^ (28 * n) < 2 ^ 63) (hr : 0 < r) : n ≤ 2 := by
  refine Nat.le_of_not_lt fun hn => ?_
  have h1 : 2 ^ 63 ≤ 2 ^ (28 * n) := Nat.pow_le_pow_right (by omega) (by omega)
  have h2 : 2 ^ (28 * n) ≤ r * 2 ^ (28 * n) := Nat.le_mul_of_pos_left _ hr
  omega
theorem lv28_step {g : Nat → Int32} {o n r r0 : Nat} (ho : o + n < 2 ^ 31) (h : lv28 g o n + r * 2 ^ (28 * n) = r0) : lv28 (upd g (nI (o + n)).toNatClampNeg (nI (r % 268435456))) o (n + 1) + r / 268435456 * 2 ^ (28 * (n + 1)) = r0 := by
  have e1 : lv28 (upd g (nI (o + n)).toNatClampNeg (nI (r % 268435456))) o n = lv28 g o n := lv28_congr fun q hq => by rw [upd_at ho, if_neg (by omega)]
  have e2 : (nI (r % 268435456)).toNatClampNeg = r % 268435456 := nI_clamp (by omega)
  simp only [lv28]
  rw [e1, upd_at ho, if_pos rfl, e2, show 28 * (n + 1) = 28 * n + 28 by omega, Nat.pow_add]
  have e3 : r % 268435456 + 268435456 * (r / 268435456) = r := Nat.mod_add_div r 268435456
  have e4 : r % 268435456 * 2 ^ (28 * n) + r / 268435456 * (2 ^ (28 * n) * 2 ^ 28) = r * 2 ^ (28 * n) := by
    have : r / 268435456 * (2 ^ (28 * n) * 2 ^ 28) = 268435456 * (r / 268435456) * 2 ^ (28 * n) := by
      rw [Nat.mul_comm (2 ^ (28 * n)), ← Nat.mul_assoc, Nat.mul_comm (r / 268435456)]
    rw [this, ← Nat.add_mul, e3]
  omega
