theorem nI_of_bv (y : Int32) : ∃ c : Nat, c < 2 ^ 32 ∧ y = nI c ∧ c = y.toBitVec.toNat := ⟨y.toBitVec.toNat, y.toBitVec.isLt, Int32.toBitVec_inj.mp (by show _ = BitVec.ofNat 32 _; simp), rfl⟩
theorem or_nI (a b : Nat) : nI a ||| nI b = nI (a ||| b) := by
  refine Int32.toBitVec_inj.mp (BitVec.eq_of_getLsbD_eq ?_)
  intro i hi
  rw [Int32.toBitVec_or, BitVec.getLsbD_or]
  show ((BitVec.ofNat 32 a).getLsbD i || (BitVec.ofNat 32 b).getLsbD i) = (BitVec.ofNat 32 (a ||| b)).getLsbD i
  simp [BitVec.getLsbD_ofNat, Nat.testBit_or, hi]
theorem bitN {b v : Nat} (hb : b < 2 ^ 31) (hv : v < 32) : (nI b >>> (nI v &&& 31)) &&& 1 = nI (b / 2 ^ v % 2) := by
  rw [pk_shrN hb _ v (sl_i v hv), pk_andN (Nat.lt_of_le_of_lt (Nat.div_le_self _ _) (by omega)) 1 (by decide)]
theorem clr_bit : ∀ v, v < 16 → ((((1 : Int32) <<< (nI v &&& 31)) ^^^ (-1)).toBitVec.toNat).testBit v = false := by decide +kernel
/-- a bit is taken away -/
theorem clrB {b v : Nat} (hb : b < 65536) (hv : v < 16) (h : ¬ (nI b >>> (nI v &&& 31)) &&& 1 = 0) : ∃ b', b' < b ∧ nI b &&& (((1 : Int32) <<< (nI v &&& 31)) ^^^ (-1)) = nI b' := by
  obtain ⟨c, hc, e1, e2⟩ := nI_of_bv (((1 : Int32) <<< (nI v &&& 31)) ^^^ (-1))
  rw [bitN (by omega) (by omega)] at h
  have h1 : b / 2 ^ v % 2 = 1 := by
    rcases Nat.mod_two_eq_zero_or_one (b / 2 ^ v) with h9 | h9
    · rw [h9] at h; exact absurd nI_0 h
    · exact h9
  have h2 : b.testBit v = true := by rw [Nat.testBit_eq_decide_div_mod_eq, h1]; rfl
  refine ⟨b &&& c, ?_, by rw [e1, and_nI]⟩
  rcases Nat.lt_or_eq_of_le (Nat.and_le_left (n := b) (m := c)) with h3 | h3
  · exact h3
  · exfalso
    have h4 : (b &&& c).testBit v = true := by rw [h3]; exact h2
    rw [Nat.testBit_and, e2, clr_bit v hv, Bool.and_false] at h4
    exact absurd h4 (by decide)
theorem pow_bit : ∀ x, x < 16 → ((1 : Int32) <<< (nI x &&& 31)) = nI (2 ^ x) := by decide +kernel
/-- a bit is added -/
theorem setB {a x k : Nat} (ha : a < 2 ^ k) (hk : k ≤ 16) (hx : x < k) (h : (nI a >>> (nI x &&& 31)) &&& 1 = 0) : ∃ a', a < a' ∧ a' < 2 ^ k ∧ nI a ||| ((1 : Int32) <<< (nI x &&& 31)) = nI a' := by
  have hp : (2 : Nat) ^ k ≤ 2 ^ 16 := Nat.pow_le_pow_right (by decide) hk
  have hpx : (2 : Nat) ^ x < 2 ^ k := Nat.pow_lt_pow_right (by decide) hx
  rw [bitN (by omega) (by omega)] at h
  have h1 : a / 2 ^ x % 2 = 0 := by
    rcases Nat.mod_two_eq_zero_or_one (a / 2 ^ x) with h9 | h9
    · exact h9
    · rw [h9] at h; exact absurd h (by decide)
  have h2 : a.testBit x = false := by rw [Nat.testBit_eq_decide_div_mod_eq, h1]; rfl
  refine ⟨a ||| 2 ^ x, ?_, Nat.or_lt_two_pow ha hpx, by rw [pow_bit x (by omega), or_nI]⟩
  rcases Nat.lt_or_eq_of_le (Nat.left_le_or (n := a) (m := 2 ^ x)) with h3 | h3
  · exact h3
  · exfalso
    have h4 : (a ||| 2 ^ x).testBit x = false := by rw [← h3]; exact h2
    rw [Nat.testBit_or, Nat.testBit_two_pow_self, Bool.or_true] at h4
    exact absurd h4 (by decide)
/-- rules keep to the holders -/
def RulV (k a b c : Int32) (hn : Nat) : Prop := (k = 0 ∨ k = 2 ∨ k = 3) ∨ (k = 1 ∧ (∃ x, x < hn ∧ a = nI x) ∧ ∃ x, x < hn ∧ c = nI x) ∨ (k = 4 ∧ (∃ x, x < hn ∧ a = nI x) ∧ ∃ x, x < hn ∧ b = nI x)
def RuO (f80 f81 f82 f83 : Nat → Int32) (hn ru : Nat) : Prop := ∀ r, r < ru → RulV (f80 r) (f81 r) (f82 r) (f83 r) hn
theorem RulV.mono {k a b c : Int32} {hn h2 : Nat} (h : RulV k a b c hn) (hh : hn ≤ h2) : RulV k a b c h2 := by
  rcases h with h | ⟨h1, ⟨x, hx, ex⟩, y, hy, ey⟩ | ⟨h1, ⟨x, hx, ex⟩, y, hy, ey⟩
  · exact Or.inl h
  · exact Or.inr (Or.inl ⟨h1, ⟨x, by omega, ex⟩, y, by omega, ey⟩)
  · exact Or.inr (Or.inr ⟨h1, ⟨x, by omega, ex⟩, y, by omega, ey⟩)
theorem RuO.more {f80 f81 f82 f83 g80 g81 g82 g83 : Nat → Int32} {hn ru : Nat} (h : RuO f80 f81 f82 f83 hn ru) (e0 : ∀ r, r < ru → g80 r = f80 r ∧ g81 r = f81 r ∧ g82 r = f82 r ∧ g83 r = f83 r) (h1 : RulV (g80 ru) (g81 ru) (g82 ru) (g83 ru) hn) : RuO g80 g81 g82 g83 hn (ru + 1) := fun r hr => by
  by_cases e : r = ru
  · subst e; exact h1
  · obtain ⟨a, b, c, d⟩ := e0 r (by omega)
    rw [a, b, c, d]; exact h r (by omega)
def DoO (f78 : Nat → Int32) (hn : Nat) : Prop := ∀ h, h < hn → ∃ b, b < 65536 ∧ f78 h = nI b
def LmO (x : Int32) : Prop := x = -1 ∨ ∃ l, l ≤ 5000 ∧ x = nI l
