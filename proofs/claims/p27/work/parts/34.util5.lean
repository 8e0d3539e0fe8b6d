def cnt (n : Nat) : Nat → Nat
  | 0 => 0
  | i + 1 => cnt n i + n / 2 ^ i % 2
theorem cnt_succ (n i : Nat) : cnt n (i + 1) = cnt n i + n / 2 ^ i % 2 := rfl
theorem cnt_le (n i : Nat) : cnt n i ≤ i := by
  induction i with
  | zero => exact Nat.le_refl 0
  | succ i ih => rw [cnt_succ]; have := Nat.mod_lt (n / 2 ^ i) (show 0 < 2 by decide); omega
theorem cnt_mono (n i d : Nat) : cnt n i ≤ cnt n (i + d) := by
  induction d with
  | zero => exact Nat.le_refl _
  | succ d ih => rw [← Nat.add_assoc, cnt_succ]; omega
theorem cnt_up {n i j : Nat} (h : i ≤ j) : cnt n i ≤ cnt n j := by
  have := cnt_mono n i (j - i)
  rw [show i + (j - i) = j by omega] at this
  exact this
def bc1 (x : Int32) : Int32 := (x - (((x).toUInt32 >>> ((1 : Int32).toUInt32 &&& Int32.toUInt32 31)).toInt32 &&& 1431655765))
def bc2 (x : Int32) : Int32 := ((x &&& 858993459) + (((x).toUInt32 >>> ((2 : Int32).toUInt32 &&& Int32.toUInt32 31)).toInt32 &&& 858993459))
def bc3 (x : Int32) : Int32 := ((x + ((x).toUInt32 >>> ((4 : Int32).toUInt32 &&& Int32.toUInt32 31)).toInt32) &&& 252645135)
def bc4 (x : Int32) : Int32 := (x + ((x).toUInt32 >>> ((8 : Int32).toUInt32 &&& Int32.toUInt32 31)).toInt32)
def bc5 (x : Int32) : Int32 := (x + ((x).toUInt32 >>> ((16 : Int32).toUInt32 &&& Int32.toUInt32 31)).toInt32)
def bcE (x : Int32) : Int32 := bc5 (bc4 (bc3 (bc2 (bc1 x)))) &&& 63
set_option maxRecDepth 100000 in
theorem bc_all : ((List.range 64).all (fun a => (List.range 64).all (fun b => decide (bcE (nI (64 * a + b)) = nI (cnt (64 * a + b) 12))))) = true := by decide +kernel
theorem bc_ok (n : Nat) (h : n < 4096) : bcE (nI n) = nI (cnt n 12) := by
  have h1 := List.all_eq_true.mp bc_all (n / 64) (List.mem_range.mpr (by omega))
  have h2 := of_decide_eq_true (List.all_eq_true.mp h1 (n % 64) (List.mem_range.mpr (by omega)))
  rw [show 64 * (n / 64) + n % 64 = n by omega] at h2
  exact h2
set_option maxRecDepth 100000 in
theorem low_all : ((List.range 64).all (fun a => (List.range 64).all (fun b => decide (64 * a + b = 0 ∨ cnt ((64 * a + b) &&& (64 * a + b - 1)) 12 + 1 = cnt (64 * a + b) 12)))) = true := by decide +kernel
theorem low_cnt (n : Nat) (h0 : 0 < n) (h : n < 4096) : cnt (n &&& (n - 1)) 12 + 1 = cnt n 12 := by
  have h1 := List.all_eq_true.mp low_all (n / 64) (List.mem_range.mpr (by omega))
  have h2 := of_decide_eq_true (List.all_eq_true.mp h1 (n % 64) (List.mem_range.mpr (by omega)))
  rw [show 64 * (n / 64) + n % 64 = n by omega] at h2
  rcases h2 with h2 | h2
  · omega
  · exact h2
theorem low_lt (n : Nat) (h0 : 0 < n) : n &&& (n - 1) < n := by
  have := @Nat.and_le_right n (n - 1)
  omega
theorem cnt_0 (i : Nat) : cnt 0 i = 0 := by
  induction i with
  | zero => rfl
  | succ i ih => rw [cnt_succ, ih]; simp
set_option maxRecDepth 100000 in
theorem sl_i : ∀ n, n < 32 → ((nI n &&& 31).toBitVec.smod 32).toNat = n := by decide +kernel
theorem shr_bit {n i : Nat} (hn : n < 4096) (hi : i < 12) : (nI n >>> (nI i &&& 31)) &&& 1 = nI (n / 2 ^ i % 2) := by
  rw [pk_shrN (by omega) _ i (sl_i i (by omega))]
  have h : n / 2 ^ i ≤ n := Nat.div_le_self _ _
  exact pk_andN (by omega) 1 (by decide)
set_option maxRecDepth 100000 in
theorem all_ok : ∀ K, K < 9 → 1 ≤ K → ((1 : Int32) <<< ((nI K - 1) &&& 31)) - 1 = nI (2 ^ (K - 1) - 1) ∧ 2 ^ (K - 1) - 1 < 128 := by decide +kernel
theorem all_ok2 (K : Nat) (h1 : 1 ≤ K) (h2 : K ≤ 8) : ∃ al, al < 128 ∧ ((1 : Int32) <<< ((nI K - 1) &&& 31)) - 1 = nI al := ⟨_, (all_ok K (by omega) h1).2, (all_ok K (by omega) h1).1⟩
def clr (n b : Nat) : Nat := if n / 2 ^ b % 2 = 1 then n - 2 ^ b else n
set_option maxRecDepth 100000 in
theorem clr_all : ((List.range 128).all (fun n => (List.range 8).all (fun b => decide ((nI n &&& (((1 : Int32) <<< (nI b &&& 31)) ^^^ (-1))) = nI (clr n b))))) = true := by decide +kernel
theorem clr_ok {n b : Nat} (h : n < 128) (hb : b < 8) : (nI n &&& (((1 : Int32) <<< (nI b &&& 31)) ^^^ (-1))) = nI (clr n b) := of_decide_eq_true (List.all_eq_true.mp (List.all_eq_true.mp clr_all n (List.mem_range.mpr h)) b (List.mem_range.mpr hb))
theorem clr_le (n b : Nat) : clr n b ≤ n := by
  unfold clr
  split
  · exact Nat.sub_le _ _
  · exact Nat.le_refl _
theorem min_far (x : Int32) (h0 : 0 ≤ x.toInt) (h1 : x.toInt ≤ 536870912) : (if 536870912 + x < 536870912 then 536870912 + x else 536870912) = 536870912 := by
  obtain ⟨j, hj, rfl⟩ := of_toInt (k := 536870913) h0 (by omega)
  rw [if_neg]
  show ¬ nI 536870912 + nI j < nI 536870912
  rw [nI_add]
  exact nI_nlt (by omega) (by omega)
theorem sw_at {g : Nat → Int32} {a b : Nat} (ha : a < 8) (hb : b < 8) (j : Nat) : upd (upd g (nI a).toNatClampNeg (g b)) (nI b).toNatClampNeg (g a) j = if j = b then g a else if j = a then g b else g j := by
  rw [upd_at (by omega)]
  by_cases e : j = b
  · rw [if_pos e, if_pos e]
  · rw [if_neg e, if_neg e, upd_at (by omega)]
def Vo (f : Nat → Int32) : Int := 2097152 * (f 0).toInt + 262144 * (f 1).toInt + 32768 * (f 2).toInt + 4096 * (f 3).toInt + 512 * (f 4).toInt + 64 * (f 5).toInt + 8 * (f 6).toInt + 1 * (f 7).toInt
def Bo (f : Nat → Int32) : Prop := ∀ j, j < 8 → 0 ≤ (f j).toInt ∧ (f j).toInt < 8
theorem Vo_rng {f : Nat → Int32} (h : Bo f) : 0 ≤ Vo f ∧ Vo f < 16777216 := by
  have h0 := h 0 (by omega)
  have h1 := h 1 (by omega)
  have h2 := h 2 (by omega)
  have h3 := h 3 (by omega)
  have h4 := h 4 (by omega)
  have h5 := h 5 (by omega)
  have h6 := h 6 (by omega)
  have h7 := h 7 (by omega)
  unfold Vo; omega
theorem Vo_lt {f g : Nat → Int32} (hf : Bo f) (hg : Bo g) {k0 : Nat} (hk : k0 < 8) (hp : ∀ i, i < k0 → g i = f i) (hl : (f k0).toInt < (g k0).toInt) : Vo f < Vo g := by
  have a0 := hf 0 (by omega)
  have b0 := hg 0 (by omega)
  have a1 := hf 1 (by omega)
  have b1 := hg 1 (by omega)
  have a2 := hf 2 (by omega)
  have b2 := hg 2 (by omega)
  have a3 := hf 3 (by omega)
  have b3 := hg 3 (by omega)
  have a4 := hf 4 (by omega)
  have b4 := hg 4 (by omega)
  have a5 := hf 5 (by omega)
  have b5 := hg 5 (by omega)
  have a6 := hf 6 (by omega)
  have b6 := hg 6 (by omega)
  have a7 := hf 7 (by omega)
  have b7 := hg 7 (by omega)
  have hc : k0 = 0 ∨ k0 = 1 ∨ k0 = 2 ∨ k0 = 3 ∨ k0 = 4 ∨ k0 = 5 ∨ k0 = 6 ∨ k0 = 7 := by omega
  rcases hc with rfl | rfl | rfl | rfl | rfl | rfl | rfl | rfl
  · unfold Vo; omega
  · have e0 : (g 0).toInt = (f 0).toInt := congrArg Int32.toInt (hp 0 (by omega)); unfold Vo; omega
  · have e0 : (g 0).toInt = (f 0).toInt := congrArg Int32.toInt (hp 0 (by omega)); have e1 : (g 1).toInt = (f 1).toInt := congrArg Int32.toInt (hp 1 (by omega)); unfold Vo; omega
  · have e0 : (g 0).toInt = (f 0).toInt := congrArg Int32.toInt (hp 0 (by omega)); have e1 : (g 1).toInt = (f 1).toInt := congrArg Int32.toInt (hp 1 (by omega)); have e2 : (g 2).toInt = (f 2).toInt := congrArg Int32.toInt (hp 2 (by omega)); unfold Vo; omega
  · have e0 : (g 0).toInt = (f 0).toInt := congrArg Int32.toInt (hp 0 (by omega)); have e1 : (g 1).toInt = (f 1).toInt := congrArg Int32.toInt (hp 1 (by omega)); have e2 : (g 2).toInt = (f 2).toInt := congrArg Int32.toInt (hp 2 (by omega)); have e3 : (g 3).toInt = (f 3).toInt := congrArg Int32.toInt (hp 3 (by omega)); unfold Vo; omega
  · have e0 : (g 0).toInt = (f 0).toInt := congrArg Int32.toInt (hp 0 (by omega)); have e1 : (g 1).toInt = (f 1).toInt := congrArg Int32.toInt (hp 1 (by omega)); have e2 : (g 2).toInt = (f 2).toInt := congrArg Int32.toInt (hp 2 (by omega)); have e3 : (g 3).toInt = (f 3).toInt := congrArg Int32.toInt (hp 3 (by omega)); have e4 : (g 4).toInt = (f 4).toInt := congrArg Int32.toInt (hp 4 (by omega)); unfold Vo; omega
  · have e0 : (g 0).toInt = (f 0).toInt := congrArg Int32.toInt (hp 0 (by omega)); have e1 : (g 1).toInt = (f 1).toInt := congrArg Int32.toInt (hp 1 (by omega)); have e2 : (g 2).toInt = (f 2).toInt := congrArg Int32.toInt (hp 2 (by omega)); have e3 : (g 3).toInt = (f 3).toInt := congrArg Int32.toInt (hp 3 (by omega)); have e4 : (g 4).toInt = (f 4).toInt := congrArg Int32.toInt (hp 4 (by omega)); have e5 : (g 5).toInt = (f 5).toInt := congrArg Int32.toInt (hp 5 (by omega)); unfold Vo; omega
  · have e0 : (g 0).toInt = (f 0).toInt := congrArg Int32.toInt (hp 0 (by omega)); have e1 : (g 1).toInt = (f 1).toInt := congrArg Int32.toInt (hp 1 (by omega)); have e2 : (g 2).toInt = (f 2).toInt := congrArg Int32.toInt (hp 2 (by omega)); have e3 : (g 3).toInt = (f 3).toInt := congrArg Int32.toInt (hp 3 (by omega)); have e4 : (g 4).toInt = (f 4).toInt := congrArg Int32.toInt (hp 4 (by omega)); have e5 : (g 5).toInt = (f 5).toInt := congrArg Int32.toInt (hp 5 (by omega)); have e6 : (g 6).toInt = (f 6).toInt := congrArg Int32.toInt (hp 6 (by omega)); unfold Vo; omega
def Io (K : Nat) (f : Nat → Int32) : Prop := ∀ i j, i < K → j < K → f i = f j → i = j
theorem ne_lt {K : Nat} {f : Nat → Int32} {k j : Nat} (h : Io K f) (hk : k < K) (hj : j < K) (hkj : k < j) (hle : (f k).toInt ≤ (f j).toInt) : (f k).toInt < (f j).toInt := by
  have h8 : ¬ (f k).toInt = (f j).toInt := fun e9 => by
    have := h k j hk hj (Int32.toInt_inj.mp e9)
    omega
  omega
theorem and_nI (a b : Nat) : nI a &&& nI b = nI (a &&& b) := by
  apply Int32.toBitVec_inj.mp
  show (BitVec.ofNat 32 a &&& BitVec.ofNat 32 b) = BitVec.ofNat 32 (a &&& b)
  apply BitVec.eq_of_getLsbD_eq
  intro i hi
  simp [BitVec.getLsbD_ofNat, Nat.testBit_and, hi]
theorem sw_B {g : Nat → Int32} {a b : Nat} (ha : a < 8) (hb : b < 8) (h : Bo g) : Bo (upd (upd g (nI a).toNatClampNeg (g b)) (nI b).toNatClampNeg (g a)) := fun j hj => by
  rw [sw_at ha hb]
  split
  · exact h a ha
  · split
    · exact h b hb
    · exact h j hj
theorem sw_I {g : Nat → Int32} {a b K : Nat} (ha : a < K) (hb : b < K) (hK : K ≤ 8) (h : Io K g) : Io K (upd (upd g (nI a).toNatClampNeg (g b)) (nI b).toNatClampNeg (g a)) := fun i j hi hj e => by
  rw [sw_at (by omega) (by omega), sw_at (by omega) (by omega)] at e
  by_cases i1 : i = b
  · by_cases j1 : j = b
    · omega
    · rw [if_pos i1, if_neg j1] at e
      by_cases j2 : j = a
      · rw [if_pos j2] at e; have := h a b ha hb e; omega
      · rw [if_neg j2] at e; have := h a j ha hj e; omega
  · rw [if_neg i1] at e
    by_cases i2 : i = a
    · rw [if_pos i2] at e
      by_cases j1 : j = b
      · rw [if_pos j1] at e; have := h b a hb ha e; omega
      · rw [if_neg j1] at e
        by_cases j2 : j = a
        · omega
        · rw [if_neg j2] at e; have := h b j hb hj e; omega
    · rw [if_neg i2] at e
      by_cases j1 : j = b
      · rw [if_pos j1] at e; have := h i a hi ha e; omega
      · rw [if_neg j1] at e
        by_cases j2 : j = a
        · rw [if_pos j2] at e; have := h i b hi hb e; omega
        · rw [if_neg j2] at e; exact h i j hi hj e
