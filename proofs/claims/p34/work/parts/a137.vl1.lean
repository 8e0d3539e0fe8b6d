/-! rules and members, for the desk of values -/
def RuV (k a b c lh : Nat → Int32) : Prop := ∀ r : Nat, ((k r).toInt = 1 → (0 ≤ (a r).toInt ∧ (a r).toInt ≤ 9) ∧ 0 ≤ (c r).toInt ∧ (c r).toInt ≤ 9) ∧ ((k r).toInt = 4 → (0 ≤ (a r).toInt ∧ (a r).toInt ≤ 9) ∧ (0 ≤ (b r).toInt ∧ (b r).toInt ≤ 9) ∧ (a r).toInt ≤ (lh r).toInt ∧ (b r).toInt ≤ (lh r).toInt)
theorem RuV.set {k a b c lh : Nat → Int32} (h : RuV k a b c lh) {k' a' b' c' lh' : Nat → Int32} {n : Nat} {x p q r m : Int32} (h1 : k' = upd k n x) (h2 : a' = upd a n p) (h3 : b' = upd b n q) (h4 : c' = upd c n r) (h5 : lh' = upd lh n m) (hx : (x.toInt = 1 → (0 ≤ p.toInt ∧ p.toInt ≤ 9) ∧ 0 ≤ r.toInt ∧ r.toInt ≤ 9) ∧ (x.toInt = 4 → (0 ≤ p.toInt ∧ p.toInt ≤ 9) ∧ (0 ≤ q.toInt ∧ q.toInt ≤ 9) ∧ p.toInt ≤ m.toInt ∧ q.toInt ≤ m.toInt)) : RuV k' a' b' c' lh' := fun j => by
  subst h1; subst h2; subst h3; subst h4; subst h5
  by_cases e : j = n
  · rw [e, pk_us, pk_us, pk_us, pk_us, pk_us]; exact hx
  · rw [pk_un e, pk_un e, pk_un e, pk_un e, pk_un e]; exact h j
def MemO (f : Nat → Int32) (n : Int) : Prop := ∀ q : Nat, (q : Int) < n → 0 ≤ (f q).toInt ∧ (f q).toInt ≤ 9
theorem MemO.push {f f' : Nat → Int32} {n n' x : Int32} (h : MemO f n.toInt) (hf : f' = upd f n.toNatClampNeg x) (hx : 0 ≤ x.toInt ∧ x.toInt ≤ 9) (h0 : 0 ≤ n.toInt) (hn : n'.toInt = n.toInt + 1) : MemO f' n'.toInt := fun q hq => by
  have hc : n.toNatClampNeg = n.toInt.toNat := rfl
  rw [hf, hc]
  by_cases e : q = n.toInt.toNat
  · rw [e, pk_us]; exact hx
  · rw [pk_un e]; exact h q (by omega)
theorem MemO.at {f : Nat → Int32} {n : Int} {i : Int32} (h : MemO f n) (h0 : 0 ≤ i.toInt) (h1 : i.toInt < n) : 0 ≤ (f i.toNatClampNeg).toInt ∧ (f i.toNatClampNeg).toInt ≤ 9 := h i.toInt.toNat (by omega)
theorem MemO.zero {f : Nat → Int32} {n : Int32} (h : n.toInt ≤ 0) : MemO f n.toInt := fun q hq => by omega
/-- values up to a holder are chosen -/
def MemC (f : Nat → Int32) (n : Int) : Prop := ∀ q : Nat, (q : Int) < n → 0 ≤ (f q).toInt
theorem MemC.set {f f' : Nat → Int32} {n x : Int32} {m : Int} (h : MemC f n.toInt) (hf : f' = upd f n.toNatClampNeg x) (h0 : 0 ≤ n.toInt) (hx : 0 ≤ x.toInt) (hm : m = n.toInt + 1) : MemC f' m := fun q hq => by
  have hc : n.toNatClampNeg = n.toInt.toNat := rfl
  rw [hf, hc]
  by_cases e : q = n.toInt.toNat
  · rw [e, pk_us]; exact hx
  · rw [pk_un e]; exact h q (by omega)
theorem MemC.any {f f' : Nat → Int32} {n x : Int32} {k m : Int} (h : MemC f k) (hf : f' = upd f n.toNatClampNeg x) (h0 : 0 ≤ n.toInt) (hm : m ≤ n.toInt) (hk : m ≤ k) : MemC f' m := fun q hq => by
  have hc : n.toNatClampNeg = n.toInt.toNat := rfl
  rw [hf, hc, pk_un (by omega)]
  exact h q (by omega)
theorem MemC.less {f : Nat → Int32} {k m : Int} (h : MemC f k) (hk : m ≤ k) : MemC f m := fun q hq => h q (by omega)
