/-! clauses: what is kept -/
def bI (x : Int32) (j : Nat) : Bool := x.toBitVec.getLsbD j
theorem bI_and (x y : Int32) (j : Nat) : bI (x &&& y) j = (bI x j && bI y j) := by
  unfold bI; rw [Int32.toBitVec_and, BitVec.getLsbD_and]
theorem bI_or (x y : Int32) (j : Nat) : bI (x ||| y) j = (bI x j || bI y j) := by
  unfold bI; rw [Int32.toBitVec_or, BitVec.getLsbD_or]
theorem bI_xor (x y : Int32) (j : Nat) : bI (x ^^^ y) j = (bI x j ^^ bI y j) := by
  unfold bI; rw [Int32.toBitVec_xor, BitVec.getLsbD_xor]
theorem bI_big {x : Int32} {j : Nat} (h : 32 ≤ j) : bI x j = false := by
  unfold bI; exact BitVec.getLsbD_of_ge _ _ h
theorem bI_0 (j : Nat) : bI 0 j = false := by
  unfold bI; show (0#32).getLsbD j = false; exact BitVec.getLsbD_zero
theorem bI_m1 {j : Nat} (h : j < 32) : bI (-1) j = true := by
  unfold bI
  have e : (-1 : Int32).toBitVec = BitVec.allOnes 32 := by decide
  rw [e, BitVec.getLsbD_allOnes]
  exact decide_eq_true h
theorem bI_ext {x y : Int32} (h : ∀ j, j < 32 → bI x j = bI y j) : x = y := by
  apply Int32.toBitVec_inj.mp
  apply BitVec.eq_of_getLsbD_eq
  intro i hi
  exact h i hi
theorem bI_zero {x : Int32} : x = 0 ↔ ∀ j, bI x j = false := by
  constructor
  · intro h j; rw [h]; exact bI_0 j
  · intro h; exact bI_ext (fun j _ => by rw [h j, bI_0])
theorem bI_1all : ((List.range 25).all (fun i => (List.range 32).all (fun j => decide (bI ((1 : Int32) <<< (nI i &&& 31)) j = decide (j = i))))) = true := by decide +kernel
theorem bI_1 {i j : Nat} (hi : i < 25) : bI ((1 : Int32) <<< (nI i &&& 31)) j = decide (j = i) := by
  by_cases hj : j < 32
  · exact of_decide_eq_true (List.all_eq_true.mp (List.all_eq_true.mp bI_1all i (List.mem_range.mpr hi)) j (List.mem_range.mpr hj))
  · rw [bI_big (by omega)]
    exact (decide_eq_false (by omega)).symm
/-- all of n clauses -/
def cFull (n : Nat) : Int32 := ((1 : Int32) <<< (nI n &&& 31)) - 1
theorem cFull_all : ((List.range 25).all (fun n => (List.range 25).all (fun j => decide (j < n → bI (cFull n) j = true)))) = true := by decide +kernel
theorem cFull_bit {n j : Nat} (hn : n < 25) (hj : j < n) : bI (cFull n) j = true :=
  of_decide_eq_true (List.all_eq_true.mp (List.all_eq_true.mp cFull_all n (List.mem_range.mpr hn)) j (List.mem_range.mpr (by omega))) hj
/-- row k does not keep clause i -/
def kN (d : ClD) (i k : Nat) : Bool := decide ((d.2.1 i &&& nI k) = 0 ∧ (d.2.2.1 i &&& (nI k ^^^ (-1))) = 0)
theorem sub_iff (r b : Int32) : (r &&& b) = b ↔ (b &&& (r ^^^ (-1))) = 0 := by
  constructor
  · intro h
    apply bI_zero.mpr
    intro j
    by_cases hj : j < 32
    · have e : bI (r &&& b) j = bI b j := by rw [h]
      rw [bI_and] at e
      rw [bI_and, bI_xor, bI_m1 hj]
      cases h1 : bI r j <;> cases h2 : bI b j <;> rw [h1, h2] at e <;> first | rfl | cases e
    · rw [bI_and, bI_big (x := b) (by omega)]; rfl
  · intro h
    apply bI_ext
    intro j hj
    have e := bI_zero.mp h j
    rw [bI_and, bI_xor, bI_m1 hj] at e
    rw [bI_and]
    cases h1 : bI r j <;> cases h2 : bI b j <;> rw [h1, h2] at e <;> first | rfl | cases e
theorem kN_cls (d : ClD) (i k : Nat) : kN d i k = true ↔ ((nI k &&& d.2.1 i) = 0 ∧ (nI k &&& d.2.2.1 i) = d.2.2.1 i) := by
  unfold kN
  rw [decide_eq_true_iff, sub_iff, Int32.and_comm]
/-- what a row costs -/
def cSum (d : ClD) (k : Nat) : Nat → Int
  | 0 => 0
  | i + 1 => cSum d k i + (if kN d i k = true then (d.2.2.2 i).toInt else 0)
def cMust (d : ClD) (k m : Nat) : Prop := ∀ i, i < m → kN d i k = true → (d.2.2.2 i).toInt ≠ 0
def cVal (d : ClD) : Prop := 0 ≤ d.1 ∧ d.1 ≤ 24 ∧ ∀ i : Nat, (i : Int) < d.1 → 0 ≤ (d.2.2.2 i).toInt ∧ (d.2.2.2 i).toInt ≤ 1000
theorem cSum.bd {d : ClD} (hv : cVal d) (k : Nat) : ∀ m : Nat, (m : Int) ≤ d.1 → 0 ≤ cSum d k m ∧ cSum d k m ≤ 1000 * (m : Int) := by
  intro m
  induction m with
  | zero => intro _; exact ⟨Int.le_refl _, Int.le_refl _⟩
  | succ m ih =>
    intro h
    have h1 := ih (by omega)
    have h2 := hv.2.2 m (by omega)
    unfold cSum
    split <;> omega
/-- the least so far, and the first row with it -/
def cBest (d : ClD) (m : Nat) (b c : Int) : Prop := (c = -1 ∧ b = -1 ∧ ∀ k, k < m → ¬ cMust d k d.1.toNat) ∨ (0 ≤ c ∧ c < (m : Int) ∧ cMust d c.toNat d.1.toNat ∧ b = cSum d c.toNat d.1.toNat ∧ ∀ k, k < m → cMust d k d.1.toNat → b < cSum d k d.1.toNat ∨ (b = cSum d k d.1.toNat ∧ c ≤ (k : Int)))
theorem cBest.start {d : ClD} {b c : Int} (hb : b = -1) (hc : c = -1) : cBest d 0 b c := Or.inl ⟨hc, hb, fun k hk => absurd hk (Nat.not_lt_zero k)⟩
theorem cBest.no {d : ClD} {m : Nat} {b c : Int} (h : cBest d m b c) (hm : ¬ cMust d m d.1.toNat) : cBest d (m + 1) b c := by
  rcases h with ⟨h1, h2, h3⟩ | ⟨h1, h2, h3, h4, h5⟩
  · refine Or.inl ⟨h1, h2, fun k hk => ?_⟩
    by_cases e : k = m
    · rw [e]; exact hm
    · exact h3 k (by omega)
  · refine Or.inr ⟨h1, by omega, h3, h4, fun k hk hk2 => ?_⟩
    by_cases e : k = m
    · rw [e] at hk2; exact absurd hk2 hm
    · exact h5 k (by omega) hk2
theorem cBest.take {d : ClD} {m : Nat} {b c b2 c2 : Int} (h : cBest d m b c) (hm : cMust d m d.1.toNat) (hb : b2 = cSum d m d.1.toNat) (hc : c2 = (m : Int)) (hl : c = -1 ∨ b2 < b) : cBest d (m + 1) b2 c2 := by
  subst hc
  have e0 : ((m : Nat) : Int).toNat = m := by omega
  refine Or.inr ⟨by omega, by omega, by rw [e0]; exact hm, by rw [e0]; exact hb, fun k hk hk2 => ?_⟩
  by_cases e : k = m
  · rw [e]; exact Or.inr ⟨hb, Int.le_refl _⟩
  · rcases h with ⟨h1, h2, h3⟩ | ⟨h1, h2, h3, h4, h5⟩
    · exact absurd hk2 (h3 k (by omega))
    · have := h5 k (by omega) hk2
      left
      omega
theorem cBest.keep {d : ClD} {m : Nat} {b c : Int} (h : cBest d m b c) (hc : c ≠ -1) (hl : ¬ cSum d m d.1.toNat < b) : cBest d (m + 1) b c := by
  rcases h with ⟨h1, h2, h3⟩ | ⟨h1, h2, h3, h4, h5⟩
  · exact absurd h1 hc
  · refine Or.inr ⟨h1, by omega, h3, h4, fun k hk hk2 => ?_⟩
    by_cases e : k = m
    · rw [e]; omega
    · exact h5 k (by omega) hk2
theorem cBest.eq {d : ClD} {m : Nat} {b c b2 c2 : Int} (h : cBest d m b c) (h2 : cBest d m b2 c2) : b = b2 ∧ c = c2 := by
  rcases h with ⟨h1, g2, h3⟩ | ⟨h1, g2, h3, h4, h5⟩
  · rcases h2 with ⟨k1, k2, k3⟩ | ⟨k1, k2, k3, k4, k5⟩
    · omega
    · exact absurd k3 (h3 _ (by omega))
  · rcases h2 with ⟨k1, k2, k3⟩ | ⟨k1, k2, k3, k4, k5⟩
    · exact absurd h3 (k3 _ (by omega))
    · have a1 := h5 _ (by omega) k3
      have a2 := k5 _ (by omega) h3
      omega
/-- row k keeps the clauses of x -/
def cSat (d : ClD) (x : Int32) (k : Nat) : Nat → Bool
  | 0 => true
  | i + 1 => cSat d x k i && (!(bI x i) || !(kN d i k))
theorem cSat_iff {d : ClD} {x : Int32} {k : Nat} : ∀ m, cSat d x k m = true ↔ ∀ i, i < m → bI x i = true → kN d i k = false := by
  intro m
  induction m with
  | zero => exact ⟨fun _ i hi => absurd hi (Nat.not_lt_zero i), fun _ => rfl⟩
  | succ m ih =>
    unfold cSat
    rw [Bool.and_eq_true, ih]
    constructor
    · rintro ⟨h1, h2⟩ i hi hx
      by_cases e : i = m
      · subst e
        rw [hx] at h2
        cases h3 : kN d i k
        · rfl
        · rw [h3] at h2; cases h2
      · exact h1 i (by omega) hx
    · intro h
      refine ⟨fun i hi => h i (by omega), ?_⟩
      cases h3 : bI x m
      · rfl
      · rw [h m (by omega) h3]; rfl
def cMods (d : ClD) (x : Int32) : Nat := cntB (fun k => cSat d x k d.1.toNat) 4096
def cCan (d : ClD) (x : Int32) : Prop := ∃ k, k < 4096 ∧ cSat d x k d.1.toNat = true
theorem cMods_pos {d : ClD} {x : Int32} : 0 < cMods d x ↔ cCan d x := by
  unfold cMods cCan
  have key : ∀ n, 0 < cntB (fun k => cSat d x k d.1.toNat) n ↔ ∃ k, k < n ∧ cSat d x k d.1.toNat = true := by
    intro n
    induction n with
    | zero => exact ⟨fun h => absurd h (Nat.lt_irrefl 0), fun ⟨k, h, _⟩ => absurd h (Nat.not_lt_zero k)⟩
    | succ n ih =>
      unfold cntB
      by_cases e : cSat d x n d.1.toNat = true
      · rw [if_pos e]
        exact ⟨fun _ => ⟨n, by omega, e⟩, fun _ => by omega⟩
      · rw [if_neg e]
        constructor
        · intro h
          obtain ⟨k, h1, h2⟩ := ih.mp (by omega)
          exact ⟨k, by omega, h2⟩
        · rintro ⟨k, h1, h2⟩
          by_cases e2 : k = n
          · rw [e2] at h2; exact absurd h2 e
          · have := ih.mpr ⟨k, by omega, h2⟩; omega
  exact key 4096
/-- the core -/
def cLess (x : Int32) (c : Nat) : Int32 := x &&& (((1 : Int32) <<< (nI c &&& 31)) ^^^ (-1))
def cCore (d : ClD) : Nat → Int32 → Int32 → Prop
  | 0, x, r => r = x
  | c + 1, x, r => (cCan d (cLess x c) ∧ cCore d c x r) ∨ (¬ cCan d (cLess x c) ∧ cCore d c (cLess x c) r)
theorem cCore.eq {d : ClD} : ∀ {c : Nat} {x r q : Int32}, cCore d c x r → cCore d c x q → r = q := by
  intro c
  induction c with
  | zero => intro x r q h h2; exact Eq.trans h (Eq.symm h2)
  | succ c ih =>
    intro x r q h h2
    rcases h with ⟨h1, h3⟩ | ⟨h1, h3⟩
    · rcases h2 with ⟨k1, k3⟩ | ⟨k1, k3⟩
      · exact ih h3 k3
      · exact absurd h1 k1
    · rcases h2 with ⟨k1, k3⟩ | ⟨k1, k3⟩
      · exact absurd k1 h1
      · exact ih h3 k3
/-- the answer of truth -/
def cTru (d : ClD) (what : Int) (r : Int32) : Prop := (what = 0 ∧ ∃ c, cBest d 4096 r.toInt c) ∨ (what = 1 ∧ ∃ b, cBest d 4096 b r.toInt) ∨ (what = 2 ∧ r.toInt = (cMods d (cFull d.1.toNat) : Int)) ∨ (what = 3 ∧ ((cCan d (cFull d.1.toNat) ∧ r = 0) ∨ (¬ cCan d (cFull d.1.toNat) ∧ cCore d d.1.toNat (cFull d.1.toNat) r))) ∨ (what = 4 ∧ r.toInt = d.1) ∨ ((what < 0 ∨ 4 < what) ∧ r = -1)
theorem cTru.eq {d : ClD} {what : Int} {r q : Int32} (h : cTru d what r) (h2 : cTru d what q) : r = q := by
  apply Int32.toInt_inj.mp
  rcases h with ⟨e, c, h⟩ | ⟨e, b, h⟩ | ⟨e, h⟩ | ⟨e, h⟩ | ⟨e, h⟩ | ⟨e, h⟩
  · rcases h2 with ⟨f, c2, g⟩ | ⟨f, b2, g⟩ | ⟨f, g⟩ | ⟨f, g⟩ | ⟨f, g⟩ | ⟨f, g⟩
    · exact (h.eq g).1
    · omega
    · omega
    · omega
    · omega
    · omega
  · rcases h2 with ⟨f, c2, g⟩ | ⟨f, b2, g⟩ | ⟨f, g⟩ | ⟨f, g⟩ | ⟨f, g⟩ | ⟨f, g⟩
    · omega
    · exact (h.eq g).2
    · omega
    · omega
    · omega
    · omega
  · rcases h2 with ⟨f, c2, g⟩ | ⟨f, b2, g⟩ | ⟨f, g⟩ | ⟨f, g⟩ | ⟨f, g⟩ | ⟨f, g⟩ <;> omega
  · rcases h2 with ⟨f, c2, g⟩ | ⟨f, b2, g⟩ | ⟨f, g⟩ | ⟨f, g⟩ | ⟨f, g⟩ | ⟨f, g⟩
    · omega
    · omega
    · omega
    · rcases h with ⟨h1, h3⟩ | ⟨h1, h3⟩
      · rcases g with ⟨g1, g3⟩ | ⟨g1, g3⟩
        · rw [h3, g3]
        · exact absurd h1 g1
      · rcases g with ⟨g1, g3⟩ | ⟨g1, g3⟩
        · exact absurd g1 h1
        · rw [h3.eq g3]
    · omega
    · omega
  · rcases h2 with ⟨f, c2, g⟩ | ⟨f, b2, g⟩ | ⟨f, g⟩ | ⟨f, g⟩ | ⟨f, g⟩ | ⟨f, g⟩ <;> omega
  · rcases h2 with ⟨f, c2, g⟩ | ⟨f, b2, g⟩ | ⟨f, g⟩ | ⟨f, g⟩ | ⟨f, g⟩ | ⟨f, g⟩
    · omega
    · omega
    · omega
    · omega
    · omega
    · rw [h, g]
theorem cSum_no {d : ClD} {i k : Nat} (h : kN d i k = false) : cSum d k (i + 1) = cSum d k i := by
  show cSum d k i + (if kN d i k = true then (d.2.2.2 i).toInt else 0) = cSum d k i
  rw [if_neg (by rw [h]; decide)]; omega
theorem cSum_yes {d : ClD} {i k : Nat} (h : kN d i k = true) : cSum d k (i + 1) = cSum d k i + (d.2.2.2 i).toInt := by
  show cSum d k i + (if kN d i k = true then (d.2.2.2 i).toInt else 0) = cSum d k i + (d.2.2.2 i).toInt
  rw [if_pos h]
theorem cMust_no {d : ClD} {i k : Nat} (h : cMust d k i) (hn : kN d i k = false) : cMust d k (i + 1) := by
  intro j hj hk
  by_cases e : j = i
  · rw [e, hn] at hk; cases hk
  · exact h j (by omega) hk
theorem cMust_yes {d : ClD} {i k : Nat} (h : cMust d k i) (hw : (d.2.2.2 i).toInt ≠ 0) : cMust d k (i + 1) := by
  intro j hj hk
  by_cases e : j = i
  · rw [e]; exact hw
  · exact h j (by omega) hk
theorem cSat_bit0 {d : ClD} {x : Int32} {k i : Nat} (h : cSat d x k i = true) (hb : bI x i = false) : cSat d x k (i + 1) = true := by
  show (cSat d x k i && (!(bI x i) || !(kN d i k))) = true
  rw [h, hb]; rfl
theorem cSat_kept {d : ClD} {x : Int32} {k i : Nat} (h : cSat d x k i = true) (hb : kN d i k = false) : cSat d x k (i + 1) = true := by
  show (cSat d x k i && (!(bI x i) || !(kN d i k))) = true
  rw [h, hb]; cases bI x i <;> rfl
theorem cSat_fail {d : ClD} {x : Int32} {k i : Nat} (hb : bI x i = true) (hk : kN d i k = true) : cSat d x k (i + 1) = false := by
  show (cSat d x k i && (!(bI x i) || !(kN d i k))) = false
  rw [hb, hk]; cases cSat d x k i <;> rfl
theorem cSat_no {d : ClD} {x : Int32} {k i : Nat} (h : cSat d x k i = false) : ∀ m, i ≤ m → cSat d x k m = false := by
  intro m
  induction m with
  | zero => intro hm; rw [show i = 0 by omega] at h; exact h
  | succ m ih =>
    intro hm
    by_cases e : i = m + 1
    · rw [← e]; exact h
    · show (cSat d x k m && (!(bI x m) || !(kN d m k))) = false
      rw [ih (by omega)]; rfl
theorem sm32 : ∀ k, k < 32 → ((nI k) &&& 31).toBitVec.smod 32 = BitVec.ofNat 32 k := by decide
theorem bI_shr {x : Int32} {k : Nat} (hk : k < 32) : bI (x >>> (nI k &&& 31)) 0 = bI x k := by
  unfold bI
  have h3 : (BitVec.ofNat 32 k).toNat = k := Nat.mod_eq_of_lt (by omega)
  rw [Int32.toBitVec_shiftRight, BitVec.sshiftRight', sm32 k hk, h3, BitVec.getLsbD_sshiftRight]
  simp [hk]
theorem bI_and1 (y : Int32) : (y &&& 1) = 0 ↔ bI y 0 = false := by
  constructor
  · intro h
    have e := bI_zero.mp h 0
    rw [bI_and] at e
    have e1 : bI 1 0 = true := by decide
    rw [e1, Bool.and_true] at e
    exact e
  · intro h
    apply bI_zero.mpr
    intro j
    rw [bI_and]
    by_cases e : j = 0
    · rw [e, h]; rfl
    · have e1 : bI 1 j = false := by
        have e2 := bI_1 (i := 0) (j := j) (by decide)
        rw [show ((1 : Int32) <<< (nI 0 &&& 31)) = 1 from by decide] at e2
        rw [e2]; exact decide_eq_false e
      rw [e1, Bool.and_false]
theorem bI_test {x : Int32} {k : Nat} (hk : k < 32) : ((x >>> (nI k &&& 31)) &&& 1) = 0 ↔ bI x k = false := by
  rw [bI_and1, bI_shr hk]
theorem cVal.of {n : Int} {f g h x y z : Nat → Int32} (hv : cVal (n, f, g, h)) (e1 : x = f) (e2 : y = g) (e3 : z = h) : cVal (n, x, y, z) := by
  subst e1 e2 e3
  exact hv
theorem cVal.less {n m : Int} {f g h : Nat → Int32} (hv : cVal (n, f, g, h)) (h0 : 0 ≤ m) (h1 : m ≤ n) : cVal (m, f, g, h) :=
  ⟨h0, Int.le_trans h1 hv.2.1, fun i hi => hv.2.2 i (Int.lt_of_lt_of_le hi h1)⟩
theorem cVal.add {d : ClD} {y m w : Int32} (hv : cVal d) (hn : d.1 < 24) (hw : 0 ≤ w.toInt ∧ w.toInt ≤ 1000) : cVal (clAdd d y m w) := by
  have h0 := hv.1
  refine ⟨by show 0 ≤ d.1 + 1; omega, by show d.1 + 1 ≤ 24; omega, fun i hi => ?_⟩
  have hi : ((i : Nat) : Int) < d.1 + 1 := hi
  show 0 ≤ (upd d.2.2.2 d.1.toNat w i).toInt ∧ (upd d.2.2.2 d.1.toNat w i).toInt ≤ 1000
  unfold upd
  by_cases e : i = d.1.toNat
  · rw [if_pos e]; exact hw
  · rw [if_neg e]; exact hv.2.2 i (by omega)
theorem cVal.z : cVal clZ := ⟨Int.le_refl _, by decide, fun i hi => by
  have h9 : ((i : Nat) : Int) < 0 := hi
  omega⟩
theorem cBest.neg {d : ClD} {m : Nat} {b c : Int} (hv : cVal d) (h : cBest d m b c) : (b = -1 ∧ c = -1) ∨ (0 ≤ b ∧ 0 ≤ c) := by
  rcases h with ⟨h1, h2, _⟩ | ⟨h1, _, _, h4, _⟩
  · exact Or.inl ⟨h2, h1⟩
  · have h0 := hv.1
    have h9 := cSum.bd hv c.toNat d.1.toNat (by omega)
    exact Or.inr ⟨by omega, h1⟩
