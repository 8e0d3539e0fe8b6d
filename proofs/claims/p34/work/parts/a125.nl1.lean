/-! bits, for the nets -/
theorem bt_or (x y : Int32) (j : Nat) : bt (x ||| y) j = (bt x j || bt y j) := by
  unfold bt; rw [Int32.toBitVec_or, BitVec.getLsbD_or]
theorem bt_0 (j : Nat) : bt 0 j = false := by
  unfold bt; show (0#32).getLsbD j = false; exact BitVec.getLsbD_zero
theorem bt_1all : ((List.range 12).all (fun i => (List.range 12).all (fun j => decide (bt ((1 : Int32) <<< (iI (i : Int) &&& 31)) j = decide (j = i))))) = true := by decide +kernel
theorem bt_1 {k : Int32} {j : Nat} (h0 : 0 ≤ k.toInt) (h1 : k.toInt ≤ 11) (hj : j < 12) : bt ((1 : Int32) <<< (k &&& 31)) j = decide (j = k.toInt.toNat) := by
  have e : k = iI ((k.toInt.toNat : Nat) : Int) := by rw [show ((k.toInt.toNat : Nat) : Int) = k.toInt by omega]; exact iI_of k
  have h := of_decide_eq_true (List.all_eq_true.mp (List.all_eq_true.mp bt_1all k.toInt.toNat (List.mem_range.mpr (by omega))) j (List.mem_range.mpr hj))
  rw [← e] at h; exact h
theorem bt_and1 (y : Int32) : (bt y 0 = true ∧ (y &&& 1).toInt = 1) ∨ (bt y 0 = false ∧ (y &&& 1).toInt = 0) := by
  have h := pk_and y (m := 1) 1 (by decide)
  have hb : bt y 0 = decide (y.toBitVec.toNat % 2 = 1) := by
    unfold bt; rw [BitVec.getLsbD, Nat.testBit_zero]
  have h2 := Nat.mod_lt y.toBitVec.toNat (show 0 < 2 by decide)
  rw [h, hb]
  rw [show (2 : Nat) ^ 1 = 2 from rfl, nI_toInt (by omega)]
  by_cases e : y.toBitVec.toNat % 2 = 1
  · left; simp [e]
  · right; simp [e]; omega
theorem bt_shr {x k : Int32} {X : Int} (hk : k.toInt = X) (h0 : 0 ≤ X) (h1 : X < 32) : bt (x >>> (k &&& 31)) 0 = bt x X.toNat := by
  unfold bt
  rw [Int32.toBitVec_shiftRight, BitVec.sshiftRight', sa_t hk h0 h1, BitVec.getLsbD_sshiftRight]
  have : X.toNat < 32 := by omega
  simp [this]
theorem sh_and1 {x k y : Int32} {X : Int} (hy : y = x >>> (k &&& 31)) (hk : k.toInt = X) (h0 : 0 ≤ X) (h1 : X < 32) : (bt x X.toNat = true ∧ (y &&& 1).toInt = 1) ∨ (bt x X.toNat = false ∧ (y &&& 1).toInt = 0) := by
  rw [← bt_shr (x := x) hk h0 h1, ← hy]; exact bt_and1 y
theorem tk_0 {S : Prop} {x : Int32} {n n' v : Int} (h : S ∨ ∀ j : Nat, (j : Int) < n → bt x j = false) (hn : 0 ≤ n) (hn' : n' = n + 1) (hv : v = 0) (hb : (bt x n.toNat = true ∧ v = 1) ∨ (bt x n.toNat = false ∧ v = 0)) : S ∨ ∀ j : Nat, (j : Int) < n' → bt x j = false := by
  rcases h with h | h
  · exact Or.inl h
  · refine Or.inr (fun j hj => ?_)
    by_cases e : (j : Int) < n
    · exact h j e
    · have e2 : j = n.toNat := by omega
      rcases hb with ⟨_, h9⟩ | ⟨h9, _⟩
      · omega
      · rw [e2]; exact h9
theorem tk_end {x : Int32} {n s : Int} (h : 1 ≤ s ∨ ∀ j : Nat, (j : Int) < n → bt x j = false) (hn : 12 ≤ n ∨ 1 ≤ s) (h0 : 0 < x.toInt) (h1 : x.toInt < 4096) : 1 ≤ s := by
  rcases h with h | h
  · exact h
  · rcases hn with hn | hn
    · exfalso
      obtain ⟨j, hj, e⟩ := nI_of (x := x) (nn_i rfl (by omega))
      have hx : x.toInt = j := by rw [e, nI_toInt hj]
      have hb : ∀ i, j.testBit i = false := fun i => by
        by_cases hi : i < 12
        · have := h i (by omega)
          rw [e] at this
          have h9 : bt (nI j) i = j.testBit i := by
            show (BitVec.ofNat 32 j).getLsbD i = _
            rw [BitVec.getLsbD_ofNat]; simp; omega
          rw [← h9]; exact this
        · exact Nat.testBit_lt_two_pow (Nat.lt_of_lt_of_le (show j < 2 ^ 12 by omega) (Nat.pow_le_pow_right (by decide) (by omega)))
      have : j = 0 := Nat.eq_of_testBit_eq (fun i => by rw [hb i]; simp)
      omega
    · exact hn
/-- each node reached but the first has one before it that is reached -/
def RB (s : Int) (R : Int32) (f : Nat → Int32) : Prop := ∀ j : Nat, j < 12 → bt R j = true → (j : Int) = s ∨ (0 ≤ (f j).toInt ∧ (f j).toInt ≤ 11 ∧ bt R (f j).toInt.toNat = true)
def SubB (E R : Int32) : Prop := ∀ j : Nat, j < 12 → bt E j = true → bt R j = true
theorem RB.first {k : Int32} {s : Int} {f : Nat → Int32} (hs : k.toInt = s) (h0 : 0 ≤ s) (h1 : s ≤ 11) {R : Int32} (hR : R = (1 : Int32) <<< (k &&& 31)) : RB s R f := fun j hj h => by
  rw [hR, bt_1 (by omega) (by omega) hj] at h
  have := of_decide_eq_true h
  exact Or.inl (by omega)
theorem RB.more {s : Int} {R E : Int32} {f : Nat → Int32} {i j : Int32} (h : RB s R f) (hE : SubB E R) {f' : Nat → Int32} (hf : f' = upd f j.toNatClampNeg i) {R' : Int32} (hR : R' = R ||| (1 : Int32) <<< (j &&& 31)) (hi : bt E i.toInt.toNat = true) (hj : bt R j.toInt.toNat = false) (hi0 : 0 ≤ i.toInt) (hi1 : i.toInt ≤ 11) (hj0 : 0 ≤ j.toInt) (hj1 : j.toInt ≤ 11) : RB s R' f' := fun q hq hb => by
  have hc : j.toNatClampNeg = j.toInt.toNat := rfl
  rw [hR, bt_or, bt_1 hj0 hj1 hq] at hb
  have mono : ∀ q, bt R q = true → bt R' q = true := fun q h9 => by rw [hR, bt_or, h9]; rfl
  rw [hf, hc]
  by_cases e : q = j.toInt.toNat
  · rw [e, pk_us]
    exact Or.inr ⟨hi0, hi1, mono _ (hE _ (by omega) hi)⟩
  · rw [pk_un e]
    have hb2 : bt R q = true := by
      rcases h9 : bt R q with _ | _
      · rw [h9, Bool.false_or] at hb; exact absurd (of_decide_eq_true hb) e
      · rfl
    rcases h q hq hb2 with h9 | ⟨h1, h2, h3⟩
    · exact Or.inl h9
    · exact Or.inr ⟨h1, h2, mono _ h3⟩
theorem SubB.refl (R : Int32) : SubB R R := fun _ _ h => h
theorem SubB.zero (R : Int32) : SubB 0 R := fun j _ h => by rw [bt_0] at h; cases h
theorem SubB.grow {E R R' x : Int32} (h : SubB E R) (hR : R' = R ||| x) : SubB E R' := fun q hq h9 => by rw [hR, bt_or, h q hq h9]; rfl
theorem SubB.both {E E' R R' x : Int32} (h : SubB E R) (hE : E' = E ||| x) (hR : R' = R ||| x) : SubB E' R' := fun q hq h9 => by
  rw [hE, bt_or] at h9
  rw [hR, bt_or]
  rcases h8 : bt E q with _ | _
  · rw [h8] at h9; simp at h9; rw [h9]; simp
  · rw [h q hq h8]; rfl
theorem RB.at {s : Int} {R : Int32} {f : Nat → Int32} {n : Int32} (h : RB s R f) (h0 : 0 ≤ n.toInt) (h1 : n.toInt ≤ 11) (hb : bt R n.toInt.toNat = true) (hn : n.toInt ≠ s) : 0 ≤ (f n.toNatClampNeg).toInt ∧ (f n.toNatClampNeg).toInt ≤ 11 ∧ bt R (f n.toNatClampNeg).toInt.toNat = true := by
  have hc : n.toNatClampNeg = n.toInt.toNat := rfl
  rw [hc]
  rcases h n.toInt.toNat (by omega) hb with h9 | h9
  · omega
  · exact h9
theorem bt_yes {b : Bool} {v : Int} (h : (b = true ∧ v = 1) ∨ (b = false ∧ v = 0)) (hv : ¬ v = 0) : b = true := by
  rcases h with ⟨h9, _⟩ | ⟨_, h9⟩
  · exact h9
  · exact absurd h9 hv
theorem bt_no {b : Bool} {v : Int} (h : (b = true ∧ v = 1) ∨ (b = false ∧ v = 0)) (hv : v = 0) : b = false := by
  rcases h with ⟨_, h9⟩ | ⟨h9, _⟩
  · omega
  · exact h9
