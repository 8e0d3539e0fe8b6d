/-! the class's contracts: ints over whole numbers -/
def iI (z : Int) : Int32 := Int32.ofInt z
theorem iI_of (x : Int32) : x = iI x.toInt := (Int32.ofInt_toInt x).symm
theorem iI_add2 {x y : Int32} {X Y : Int} (hx : x = iI X) (hy : y = iI Y) : x + y = iI (X + Y) := by subst hx; subst hy; exact (Int32.ofInt_add X Y).symm
theorem iI_sub2 {x y : Int32} {X Y : Int} (hx : x = iI X) (hy : y = iI Y) : x - y = iI (X - Y) := by subst hx; subst hy; exact (Int32.ofInt_sub X Y).symm
theorem iI_mul2 {x y : Int32} {X Y : Int} (hx : x = iI X) (hy : y = iI Y) : x * y = iI (X * Y) := by subst hx; subst hy; exact (Int32.ofInt_mul X Y).symm
theorem iI_neg2 {x : Int32} {X : Int} (hx : x = iI X) : -x = iI (-X) := by subst hx; exact (Int32.ofInt_neg X).symm
theorem iI_t {E : Int} (h1 : -2147483648 ≤ E) (h2 : E ≤ 2147483647) : (iI E).toInt = E := Int32.toInt_ofInt_of_le h1 (by omega)
theorem iI_rng {E lo hi : Int} (h1 : lo ≤ E) (h2 : E ≤ hi) (h3 : -2147483648 ≤ lo) (h4 : hi ≤ 2147483647) : lo ≤ (iI E).toInt ∧ (iI E).toInt ≤ hi := by
  rw [iI_t (by omega) (by omega)]; exact ⟨h1, h2⟩
theorem iI_nat (n : Nat) : Int32.ofNat n = iI ((n : Nat) : Int) := by
  show Int32.ofNat n = Int32.ofInt (n : Int)
  exact (Int32.ofInt_eq_ofNat (n := n)).symm
theorem vp_iI {E : Int} {n : Nat} (h1 : 0 ≤ E) (h2 : E < (n : Int)) (h3 : (n : Int) ≤ 2147483647) : vp_in (iI E) n := vp_in_iff.mpr (by rw [iI_t (by omega) (by omega)]; exact ⟨h1, h2⟩)
theorem nz_i {x : Int32} {X : Int} (hx : x.toInt = X) (h : X ≠ 0) : ¬ x = 0 := fun e => h (by rw [← hx, e]; decide)
theorem nz_l {x : Int64} {X : Int} (hx : x.toInt = X) (h : X ≠ 0) : ¬ x = 0 := fun e => h (by rw [← hx, e]; decide)
theorem nn_i {x : Int32} {X : Int} (hx : x.toInt = X) (h : 0 ≤ X) : ¬ x < 0 := fun e => by have := toI_lt e hx (show (0 : Int32).toInt = 0 by decide); omega
theorem upd_r {f : Nat → Int32} {lo hi : Int} (h : ∀ q : Nat, lo ≤ (f q).toInt ∧ (f q).toInt ≤ hi) {x : Int32} (hx : lo ≤ x.toInt ∧ x.toInt ≤ hi) {n : Nat} : ∀ q : Nat, lo ≤ (upd f n x q).toInt ∧ (upd f n x q).toInt ≤ hi := fun q => by
  by_cases e : q = n
  · rw [e, pk_us]; exact hx
  · rw [pk_un e]; exact h q
theorem cpy_r {f g : Nat → Int32} {lo hi : Int} (hf : ∀ q : Nat, lo ≤ (f q).toInt ∧ (f q).toInt ≤ hi) (hg : ∀ q : Nat, lo ≤ (g q).toInt ∧ (g q).toInt ≤ hi) {a b n : Nat} : ∀ q : Nat, lo ≤ (va_cpy f g a b n q).toInt ∧ (va_cpy f g a b n q).toInt ≤ hi := fun q => by
  by_cases e : b ≤ q ∧ q < b + n
  · rw [pk_cpy_in e.1 e.2]; exact hf _
  · rw [pk_cpy_out (by omega)]; exact hg q
theorem and_rng (x : Int32) {m : Int32} {M : Int} (hm : m.toInt = M) (h0 : 0 ≤ m.toInt) : 0 ≤ (x &&& m).toInt ∧ (x &&& m).toInt ≤ M := by
  subst hm
  obtain ⟨j, hj, e⟩ := nI_of (x := m) (nn_i rfl h0)
  have e2 : (x &&& m) = nI (x.toBitVec.toNat &&& j) := by
    have h1 : x = nI x.toBitVec.toNat := by apply Int32.toBitVec_inj.mp; show x.toBitVec = BitVec.ofNat 32 x.toBitVec.toNat; rw [BitVec.ofNat_toNat, BitVec.setWidth_eq]
    rw [e]; conv => lhs; rw [h1]
    exact and_nI _ _
  have h2 : x.toBitVec.toNat &&& j ≤ j := Nat.and_le_right
  rw [e2, nI_toInt (by omega), e, nI_toInt hj]
  omega
theorem and_rngL (x : Int32) {m : Int32} {M : Int} (hm : m.toInt = M) (h0 : 0 ≤ m.toInt) : 0 ≤ (m &&& x).toInt ∧ (m &&& x).toInt ≤ M := by
  rw [Int32.and_comm]; exact and_rng x hm h0
theorem shr_t {x : Int32} {X M : Int} {k : Int32} {n : Nat} (hk : ((k &&& 31).toBitVec.smod 32).toNat = n) (hx : x.toInt = X) (hM : ((2 ^ n : Nat) : Int) = M) : (x >>> (k &&& 31)).toInt = X / M := by
  rw [pk_shr x (k &&& 31) n hk, hx, ← hM]
  exact Int.shiftRight_eq_div_pow X n
theorem max_t {x y : Int32} {X Y : Int} (hx : x.toInt = X) (hy : y.toInt = Y) : (X ≤ (if x < y then y else x).toInt ∧ Y ≤ (if x < y then y else x).toInt) ∧ ((if x < y then y else x).toInt = X ∨ (if x < y then y else x).toInt = Y) := by
  split
  · rename_i h; have := toI_lt h hx hy; rw [hy]; omega
  · rename_i h; have := toI_nlt h hx hy; rw [hx]; omega
theorem min_t {x y : Int32} {X Y : Int} (hx : x.toInt = X) (hy : y.toInt = Y) : ((if y < x then y else x).toInt ≤ X ∧ (if y < x then y else x).toInt ≤ Y) ∧ ((if y < x then y else x).toInt = X ∨ (if y < x then y else x).toInt = Y) := by
  split
  · rename_i h; have := toI_lt h hy hx; rw [hy]; omega
  · rename_i h; have := toI_nlt h hy hx; rw [hx]; omega
theorem idiv_r {x y : Int32} {X Y : Int} (hx : x.toInt = X) (hy : y.toInt = Y) (h1 : 0 ≤ X) (h2 : 0 < Y) : 0 ≤ (x / y).toInt ∧ (x / y).toInt ≤ X := by
  obtain ⟨a, ha, rfl⟩ := nI_of (x := x) (nn_i hx h1)
  obtain ⟨b, hb, rfl⟩ := nI_of (x := y) (nn_i hy (by omega))
  rw [nI_toInt ha] at hx; rw [nI_toInt hb] at hy
  have h3 : a / b ≤ a := Nat.div_le_self a b
  rw [pk_div ha (by omega) hb]
  generalize a / b = d at h3 ⊢
  rw [nI_toInt (by omega)]
  omega
theorem irem_r {x y : Int32} {X Y : Int} (hx : x.toInt = X) (hy : y.toInt = Y) (h1 : 0 ≤ X) (h2 : 0 < Y) : 0 ≤ (x - x / y * y).toInt ∧ (x - x / y * y).toInt < Y := by
  obtain ⟨a, ha, rfl⟩ := nI_of (x := x) (nn_i hx h1)
  obtain ⟨b, hb, rfl⟩ := nI_of (x := y) (nn_i hy (by omega))
  rw [nI_toInt ha] at hx; rw [nI_toInt hb] at hy
  have h3 : a % b < b := Nat.mod_lt a (by omega)
  rw [pk_rem ha (by omega) hb, nI_toInt (by omega)]
  omega
theorem and_posL {x y : Int32} {X : Int} (hx : x.toInt = X) (h : 0 ≤ X) : 0 ≤ (x &&& y).toInt ∧ (x &&& y).toInt ≤ X := and_rngL y hx (by rw [hx]; exact h)
theorem nn_i2 {x : Int32} (h : 0 ≤ x.toInt) : ¬ x < 0 := nn_i rfl h
/-- 1 moved up -/
theorem shl1_all : (List.range 31).all (fun k => decide (1 ≤ ((1 : Int32) <<< (iI (k : Int) &&& 31)).toInt ∧ ((1 : Int32) <<< (iI (k : Int) &&& 31)).toInt = 2 ^ k)) = true := by decide +kernel
theorem shl1_t {x : Int32} {X : Int} (hx : x.toInt = X) {k : Nat} (h0 : 0 ≤ X) (h1 : X ≤ (k : Int)) (hk : k ≤ 30) : 1 ≤ ((1 : Int32) <<< (x &&& 31)).toInt ∧ ((1 : Int32) <<< (x &&& 31)).toInt ≤ 2 ^ k := by
  have e : x = iI ((X.toNat : Nat) : Int) := by rw [show ((X.toNat : Nat) : Int) = X by omega, ← hx]; exact iI_of x
  have h := of_decide_eq_true (List.all_eq_true.mp shl1_all X.toNat (List.mem_range.mpr (by omega)))
  rw [← e] at h
  refine ⟨h.1, ?_⟩
  rw [h.2]
  exact_mod_cast Nat.pow_le_pow_right (by decide) (show X.toNat ≤ k by omega)
/-- bits -/
def bt (x : Int32) (j : Nat) : Bool := x.toBitVec.getLsbD j
theorem sa_all : (List.range 32).all (fun k => decide (((iI (k : Int) &&& 31).toBitVec.smod 32).toNat = k)) = true := by decide +kernel
theorem sa_t {x : Int32} {X : Int} (hx : x.toInt = X) (h0 : 0 ≤ X) (h1 : X < 32) : ((x &&& 31).toBitVec.smod 32).toNat = X.toNat := by
  have e : x = iI ((X.toNat : Nat) : Int) := by rw [show ((X.toNat : Nat) : Int) = X by omega, ← hx]; exact iI_of x
  have h := of_decide_eq_true (List.all_eq_true.mp sa_all X.toNat (List.mem_range.mpr (by omega)))
  rw [← e] at h; exact h
theorem i32_r (x : Int32) : -2147483648 ≤ x.toInt ∧ x.toInt ≤ 2147483647 := ⟨Int32.le_toInt x, by have := Int32.toInt_lt x; omega⟩
theorem z01 {x : Int32} (h : 0 ≤ x.toInt ∧ x.toInt ≤ 1) : x = 0 ∨ x = 1 := by
  by_cases e : x.toInt = 0
  · exact Or.inl (Int32.toInt_inj.mp (e.trans (by decide)))
  · exact Or.inr (Int32.toInt_inj.mp ((show x.toInt = 1 by omega).trans (by decide)))
theorem cp_fit {p n : Int32} {X Y : Int} {n0 : Nat} (hp : p.toInt = X) (hn : n.toInt = Y) (h1 : 0 ≤ X) (h2 : 0 ≤ Y) (h3 : X + Y ≤ (n0 : Int)) : p.toNatClampNeg + n.toNatClampNeg ≤ n0 := by
  show p.toInt.toNat + n.toInt.toNat ≤ n0
  rw [hp, hn]; omega
theorem or_rng {x y : Int32} {X Y : Int} (hx : x.toInt = X) (hy : y.toInt = Y) (k : Nat) (hk : k ≤ 30) (h1 : 0 ≤ X) (h2 : X < (2 ^ k : Nat)) (h3 : 0 ≤ Y) (h4 : Y < (2 ^ k : Nat)) : 0 ≤ (x ||| y).toInt ∧ (x ||| y).toInt < (2 ^ k : Nat) := by
  obtain ⟨a, ha, rfl⟩ := nI_of (x := x) (nn_i hx h1)
  obtain ⟨b, hb, rfl⟩ := nI_of (x := y) (nn_i hy h3)
  rw [nI_toInt ha] at hx; rw [nI_toInt hb] at hy
  have e : nI a ||| nI b = nI (a ||| b) := by
    apply Int32.toBitVec_inj.mp
    show (BitVec.ofNat 32 a ||| BitVec.ofNat 32 b) = BitVec.ofNat 32 (a ||| b)
    apply BitVec.eq_of_getLsbD_eq
    intro i hi
    simp [BitVec.getLsbD_ofNat, hi]
  have h := Nat.or_lt_two_pow (x := a) (y := b) (n := k) (by omega) (by omega)
  have h2 : 2 ^ k ≤ 2 ^ 30 := Nat.pow_le_pow_right (by decide) hk
  rw [e, nI_toInt (by omega)]
  omega
theorem gdF (l : List Cond) : (l.filter goodWord).all goodWord = true := List.all_eq_true.mpr (fun w h => (List.mem_filter.mp h).2)
theorem toN {x : Int32} {X : Int} (hx : x.toInt = X) (h0 : 0 ≤ X) : x = nI X.toNat := by
  obtain ⟨a, ha, rfl⟩ := nI_of (x := x) (nn_i hx h0)
  rw [nI_toInt ha] at hx
  rw [← hx]; rfl
theorem shr0 {x y : Int32} {X : Int} (hx : x.toInt = X) (hy : y.toInt = 0) : (x >>> (y &&& 31)).toInt = X := by
  rw [pk_shr x (y &&& 31) 0 (sa_t hy (by decide) (by decide)), hx]
  exact Int.shiftRight_zero X
theorem ald_0 {x : Int32} {X : Int} {n : Nat} (hx : x.toInt = X) (h0 : 0 ≤ X) (h1 : X < (n : Int)) : x.toNatClampNeg < n ∧ ((x.toNatClampNeg : Nat) : Int) = X := by
  show x.toInt.toNat < n ∧ ((x.toInt.toNat : Nat) : Int) = X
  rw [hx]; omega
theorem ald_k {x : Int32} {X : Int} {o n : Nat} (hx : x.toInt = X) (h0 : 0 ≤ X) (h1 : X < (n : Int)) : o ≤ o + x.toNatClampNeg ∧ o + x.toNatClampNeg < o + n ∧ ((o + x.toNatClampNeg : Nat) : Int) = (o : Int) + X := by
  show o ≤ o + x.toInt.toNat ∧ o + x.toInt.toNat < o + n ∧ ((o + x.toInt.toNat : Nat) : Int) = (o : Int) + X
  rw [hx]; omega
theorem i2l_t (x : Int32) : (x.toInt64).toInt = x.toInt := Int32.toInt_toInt64 x
