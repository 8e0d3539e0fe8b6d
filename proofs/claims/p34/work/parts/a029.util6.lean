theorem limb0 {f : Nat → Int32} {n : Nat} (h : Lm f 0 n) {q : Nat} (hq : q < n) : 0 ≤ (f q).toInt ∧ (f q).toInt < 268435456 ∧ (f q).toNatClampNeg = (f q).toInt.toNat := by
  have := limb_lt h hq
  rwa [Nat.zero_add] at this
theorem limb0N {f : Nat → Int32} {n : Nat} (h : Lm f 0 n) {q : Nat} (hq : q < n) : ∃ d, d < 268435456 ∧ f q = nI d := by
  have := h q hq
  rwa [Nat.zero_add] at this
theorem orL {a b k : Nat} (hb : b < 2 ^ k) (h : a * 2 ^ k + b < 2 ^ 63) : lN (a * 2 ^ k) ||| lN b = lN (a * 2 ^ k + b) := by
  apply Int64.toBitVec_inj.mp
  apply BitVec.eq_of_toNat_eq
  have h1 : (lN (a * 2 ^ k)).toBitVec.toNat = a * 2 ^ k := Nat.mod_eq_of_lt (by omega)
  have h2 : (lN b).toBitVec.toNat = b := Nat.mod_eq_of_lt (by omega)
  have h3 : (lN (a * 2 ^ k + b)).toBitVec.toNat = a * 2 ^ k + b := Nat.mod_eq_of_lt (by omega)
  rw [Int64.toBitVec_or, BitVec.toNat_or, h1, h2, h3, ← Nat.shiftLeft_eq, Nat.shiftLeft_add_eq_or_of_lt hb]
theorem sm64 : ∀ k, k < 64 → ((nI k).toInt64 &&& 63).toBitVec.smod 64 = BitVec.ofNat 64 k := by decide
theorem shlL (n : Nat) {k : Nat} (hk : k < 64) : lN n <<< ((nI k).toInt64 &&& 63) = lN (n * 2 ^ k) := by
  apply Int64.toBitVec_inj.mp
  have e : (lN n <<< ((nI k).toInt64 &&& 63)).toBitVec = (lN n).toBitVec <<< (((nI k).toInt64 &&& 63).toBitVec.smod 64) := rfl
  rw [e, sm64 k hk]
  apply BitVec.eq_of_toNat_eq
  have h1 : (lN n).toBitVec.toNat = n % 2 ^ 64 := rfl
  have h2 : (lN (n * 2 ^ k)).toBitVec.toNat = n * 2 ^ k % 2 ^ 64 := rfl
  have h3 : (BitVec.ofNat 64 k).toNat = k := Nat.mod_eq_of_lt (by omega)
  rw [BitVec.shiftLeft_eq', BitVec.toNat_shiftLeft, h1, h2, h3, Nat.shiftLeft_eq, Nat.mod_mul_mod]
theorem lor28 {a d : Nat} (hd : d < 268435456) (ha : a < 268435456) : (lN a <<< ((28 : Int32).toInt64 &&& 63)) ||| lN d = lN (a * 268435456 + d) := by
  have e : lN a <<< ((28 : Int32).toInt64 &&& 63) = lN (a * 2 ^ 28) := shlL a (k := 28) (by decide)
  rw [e]
  exact orL (k := 28) (by omega) (by omega)
theorem lN_div {a b : Nat} (ha : a < 2 ^ 62) (hb : b < 2 ^ 62) (h0 : 0 < b) : lN a / lN b = lN (a / b) := by
  have hd : a / b ≤ a := Nat.div_le_self _ _
  apply Int64.toInt_inj.mp
  rw [Int64.toInt_div, pk_lT (by omega), pk_lT (by omega), pk_lT (by omega)]
  have e : (a : Int).tdiv (b : Int) = ((a / b : Nat) : Int) := rfl
  rw [e]
  generalize a / b = c at *
  exact Int.bmod_eq_of_le (by omega) (by omega)
theorem lN_rem {a b : Nat} (ha : a < 2 ^ 62) (hb : b < 2 ^ 62) (h0 : 0 < b) : lN a - lN a / lN b * lN b = lN (a % b) := by
  rw [lN_div ha hb h0, lN_mul]
  have e := Nat.div_add_mod a b
  have e2 : a / b * b = b * (a / b) := Nat.mul_comm _ _
  have e3 : lN a = lN (a % b) + lN (a / b * b) := by rw [lN_add]; congr 1; omega
  rw [e3, Int64.add_sub_cancel]
theorem orI {a b k : Nat} (hb : b < 2 ^ k) (h : a * 2 ^ k + b < 2 ^ 31) : nI (a * 2 ^ k) ||| nI b = nI (a * 2 ^ k + b) := by
  apply Int32.toBitVec_inj.mp
  apply BitVec.eq_of_toNat_eq
  have h1 : (nI (a * 2 ^ k)).toBitVec.toNat = a * 2 ^ k := Nat.mod_eq_of_lt (by omega)
  have h2 : (nI b).toBitVec.toNat = b := Nat.mod_eq_of_lt (by omega)
  have h3 : (nI (a * 2 ^ k + b)).toBitVec.toNat = a * 2 ^ k + b := Nat.mod_eq_of_lt (by omega)
  rw [Int32.toBitVec_or, BitVec.toNat_or, h1, h2, h3, ← Nat.shiftLeft_eq, Nat.shiftLeft_add_eq_or_of_lt hb]
theorem shl1 {d b : Nat} (hd : d < 268435456) (hb : b ≤ 1) : (nI d <<< ((1 : Int32) &&& 31)) ||| nI b = nI (2 * d + b) := by
  rw [pk_shlN (n := d) ((1 : Int32) &&& 31) 1 (by decide) (by omega), orI (k := 1) (by omega) (by omega), Nat.mul_comm]
theorem mask32 {n : Nat} (h : n < 2 ^ 31) : nI n &&& 268435455 = nI (n % 268435456) := pk_andN (n := n) (by omega) 28 (by decide)
theorem shr32 {n : Nat} (h : n < 2 ^ 31) : nI n >>> ((28 : Int32) &&& 31) = nI (n / 268435456) := pk_shrN h ((28 : Int32) &&& 31) 28 (by decide)
theorem sm28 : ∀ b, b < 28 → ((nI b &&& 31).toBitVec.smod 32).toNat = b := by decide
theorem bit32 {d b : Nat} (hd : d < 268435456) (hb : b < 28) : nI d >>> (nI b &&& 31) &&& 1 = nI (d / 2 ^ b % 2) := by
  have h : d / 2 ^ b ≤ d := Nat.div_le_self _ _
  rw [pk_shrN (n := d) (by omega) (nI b &&& 31) b (sm28 b hb), pk_andN (by omega) 1 (by decide)]
theorem orBit {t b : Nat} (hb : b < 28) (ht : t * 2 ^ (b + 1) < 2 ^ 28) : lN (t * 2 ^ (b + 1)) ||| ((1 : Int64) <<< ((nI b).toInt64 &&& 63)) = lN ((2 * t + 1) * 2 ^ b) := by
  have e : (1 : Int64) <<< ((nI b).toInt64 &&& 63) = lN (1 * 2 ^ b) := shlL 1 (k := b) (by omega)
  have h1 : 2 ^ b < 2 ^ (b + 1) := Nat.pow_lt_pow_right (by omega) (by omega)
  have h2 : 2 ^ (b + 1) ≤ 2 ^ 28 := Nat.pow_le_pow_right (by omega) (by omega)
  rw [e, Nat.one_mul, orL (k := b + 1) h1 (by omega)]
  congr 1
  rw [Nat.add_mul, Nat.pow_succ, Nat.one_mul, ← Nat.mul_assoc, Nat.mul_right_comm, Nat.mul_comm t 2]
theorem lv28_split {f : Nat → Int32} {o k n : Nat} (hk : k < n) : ∃ H, lv28 f o n = lv28 f o k + (f (o + k)).toNatClampNeg * 2 ^ (28 * k) + H * 2 ^ (28 * (k + 1)) := by
  induction n with
  | zero => omega
  | succ n ih =>
    by_cases e : k = n
    · subst e; exact ⟨0, by simp [lv28]⟩
    · obtain ⟨H, h⟩ := ih (by omega)
      refine ⟨H + (f (o + n)).toNatClampNeg * 2 ^ (28 * (n - (k + 1))), ?_⟩
      simp only [lv28]
      rw [h, Nat.add_mul, Nat.mul_assoc _ _ (2 ^ (28 * (k + 1))), ← Nat.pow_add, show 28 * (n - (k + 1)) + 28 * (k + 1) = 28 * n by omega]
      omega
theorem lv28_divs {f : Nat → Int32} {o k n d : Nat} (hL : Lm f o n) (hk : k < n) (hd : d < 268435456) (e : f (o + k) = nI d) : lv28 f o n / 2 ^ (28 * k) = d + 268435456 * (lv28 f o n / 2 ^ (28 * (k + 1))) := by
  obtain ⟨H, h⟩ := lv28_split (f := f) (o := o) hk
  rw [e, nI_clamp (by omega)] at h
  have h1 : lv28 f o k < 2 ^ (28 * k) := lv28_lt (hL.mono (by omega))
  have e1 : 2 ^ (28 * (k + 1)) = 2 ^ (28 * k) * 268435456 := by rw [show 28 * (k + 1) = 28 * k + 28 by omega, Nat.pow_add]
  have e2 : lv28 f o n = lv28 f o k + 2 ^ (28 * k) * (d + H * 268435456) := by
    rw [h, e1, Nat.mul_add, Nat.mul_comm d, ← Nat.mul_assoc, ← Nat.mul_assoc, Nat.mul_comm H]
    omega
  have e3 : lv28 f o n / 2 ^ (28 * k) = d + H * 268435456 := by
    rw [e2, Nat.add_mul_div_left _ _ (Nat.two_pow_pos _), Nat.div_eq_of_lt h1, Nat.zero_add]
  rw [e1, ← Nat.div_div_eq_div_mul, e3]
  omega
theorem lv28_bit {f : Nat → Int32} {o k n d b : Nat} (hL : Lm f o n) (hk : k < n) (hd : d < 268435456) (e : f (o + k) = nI d) (hb : b < 28) : lv28 f o n / 2 ^ (28 * k + b) = 2 * (lv28 f o n / 2 ^ (28 * k + (b + 1))) + d / 2 ^ b % 2 := by
  have h := lv28_divs hL hk hd e
  have e1 : lv28 f o n / 2 ^ (28 * k + b) = lv28 f o n / 2 ^ (28 * k) / 2 ^ b := by rw [Nat.pow_add, Nat.div_div_eq_div_mul]
  have e2 : lv28 f o n / 2 ^ (28 * k + (b + 1)) = lv28 f o n / 2 ^ (28 * k + b) / 2 := by rw [← Nat.add_assoc, Nat.pow_succ, Nat.div_div_eq_div_mul]
  rw [e2, e1, h]
  obtain ⟨c, hc⟩ : ∃ c, 28 = b + (c + 1) := ⟨27 - b, by omega⟩
  have e3 : 268435456 = 2 ^ b * (2 * 2 ^ c) := by
    have : 268435456 = 2 ^ 28 := by decide
    rw [this, hc, Nat.pow_add, Nat.pow_succ, Nat.mul_comm (2 ^ c)]
  generalize lv28 f o n / 2 ^ (28 * (k + 1)) = T
  rw [e3, Nat.mul_assoc, Nat.add_mul_div_left _ _ (Nat.two_pow_pos b), Nat.mul_assoc]
  omega
