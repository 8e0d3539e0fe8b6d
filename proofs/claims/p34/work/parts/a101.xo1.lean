/-! tours: orders of at most 8 stops, their costs, the table of the best rests, the next order -/
theorem cntB_up {f : Nat → Bool} {i j : Nat} (h : i ≤ j) : cntB f i ≤ cntB f j := by
  induction j with
  | zero =>
    have e : i = 0 := by omega
    subst e
    exact Nat.le_refl _
  | succ j ih =>
    rcases Nat.lt_or_ge j i with h1 | h1
    · have e : i = j + 1 := by omega
      subst e
      exact Nat.le_refl _
    · have h2 := ih h1
      show cntB f i ≤ cntB f j + (if f j = true then 1 else 0)
      split <;> omega
theorem cntB_s {f : Nat → Bool} {n : Nat} (h : f n = true) : cntB f (n + 1) = cntB f n + 1 := by
  show cntB f n + (if f n = true then 1 else 0) = cntB f n + 1
  rw [if_pos h]
theorem cntB_s0 {f : Nat → Bool} {n : Nat} (h : f n = false) : cntB f (n + 1) = cntB f n := by
  show cntB f n + (if f n = true then 1 else 0) = cntB f n
  rw [if_neg (by rw [h]; decide)]
  rfl
/-- the j-th of the set bits below k -/
def tuKr (b : Nat → Bool) (j : Nat) : Nat → Nat
  | 0 => 0
  | k + 1 => if b k = true ∧ cntB b k = j then k else tuKr b j k
def tuK (b : Nat → Bool) (j : Nat) : Nat := tuKr b j 12
theorem tuKr_at {b : Nat → Bool} {x k : Nat} (hx : x < k) (h : b x = true) : tuKr b (cntB b x) k = x := by
  induction k with
  | zero => omega
  | succ k ih =>
    show (if b k = true ∧ cntB b k = cntB b x then k else tuKr b (cntB b x) k) = x
    by_cases e : k = x
    · subst e
      rw [if_pos ⟨h, rfl⟩]
    · have h1 := cntB_up (f := b) (i := x + 1) (j := k) (by omega)
      rw [cntB_s h] at h1
      rw [if_neg (fun h9 => by have h8 := h9.2; omega)]
      exact ih (by omega)
theorem tuK_at {b : Nat → Bool} {x : Nat} (hx : x < 12) (h : b x = true) : tuK b (cntB b x) = x := tuKr_at hx h
theorem tuKr_lt (b : Nat → Bool) (j k : Nat) (h : 0 < k) : tuKr b j k < k := by
  induction k with
  | zero => omega
  | succ k ih =>
    show (if b k = true ∧ cntB b k = j then k else tuKr b j k) < k + 1
    split
    · omega
    · rcases Nat.eq_zero_or_pos k with e | e
      · subst e
        exact Nat.lt_succ_self 0
      · have h1 := ih e
        omega
theorem tuK_lt (b : Nat → Bool) (j : Nat) : tuK b j < 12 := tuKr_lt b j 12 (by decide)
/-- the least cost from a to b among the first k arcs; far if there is none -/
def tuL (d : NtD) (a b : Nat) : Nat → Int
  | 0 => 536870912
  | k + 1 => if tFr d k = a ∧ tTo d k = b ∧ tCo d k < tuL d a b k then tCo d k else tuL d a b k
def tuR (x : Int) : Prop := (0 ≤ x ∧ x ≤ 1000) ∨ x = 536870912
theorem tuL_r {d : NtD} (hv : tVal d) (a b : Nat) {k : Nat} (hk : (k : Int) ≤ d.1) : tuR (tuL d a b k) := by
  induction k with
  | zero => exact Or.inr rfl
  | succ k ih =>
    show tuR (if tFr d k = a ∧ tTo d k = b ∧ tCo d k < tuL d a b k then tCo d k else tuL d a b k)
    split
    · have h1 := (hv k (by omega)).2.2
      exact Or.inl h1
    · exact ih (by omega)
theorem tuL_no {d : NtD} {a b k : Nat} (h : ¬ (tFr d k = a ∧ tTo d k = b)) : tuL d a b (k + 1) = tuL d a b k := by
  show (if tFr d k = a ∧ tTo d k = b ∧ tCo d k < tuL d a b k then tCo d k else tuL d a b k) = _
  rw [if_neg (fun h9 => h ⟨h9.1, h9.2.1⟩)]
theorem tuL_yes {d : NtD} {a b k : Nat} (h1 : tFr d k = a) (h2 : tTo d k = b) : tuL d a b (k + 1) = if tCo d k < tuL d a b k then tCo d k else tuL d a b k := by
  show (if tFr d k = a ∧ tTo d k = b ∧ tCo d k < tuL d a b k then tCo d k else tuL d a b k) = _
  by_cases h : tCo d k < tuL d a b k
  · rw [if_pos ⟨h1, h2, h⟩, if_pos h]
  · rw [if_neg (fun h9 => h h9.2.2), if_neg h]
/-- what the first k links of an order cost -/
def tuC (P : Nat → Nat → Int) (n : Nat) (o : Nat → Nat) : Nat → Int
  | 0 => 0
  | k + 1 => tuC P n o k + P (o k) (o ((k + 1) % n))
def tuP (P : Nat → Nat → Int) : Prop := ∀ a b, tuR (P a b)
def tuV (n : Nat) (o : Nat → Nat) : Prop := o 0 = 0 ∧ (∀ i, i < n → o i < n) ∧ ∀ i j, i < n → j < n → o i = o j → i = j
def tuLt (n : Nat) (o p : Nat → Nat) : Prop := ∃ i, i < n ∧ (∀ j, j < i → o j = p j) ∧ o i < p i
def tuB (P : Nat → Nat → Int) (n : Nat) (o : Nat → Nat) : Prop := tuV n o ∧ tuC P n o n < 536870912 ∧ ∀ p, tuV n p → tuC P n o n ≤ tuC P n p n ∧ (tuC P n p n = tuC P n o n → ¬ tuLt n p o)
/-- the answer of a tour of the set b (n stops, m their nodes) at i -/
def tuA (d : NtD) (b : Nat → Bool) (i r : Int) : Prop :=
  ((∀ p, tuV (cntB b 12) p → ¬ tuC (fun x y => tuL d (tuK b x) (tuK b y) d.1.toNat) (cntB b 12) p (cntB b 12) < 536870912) ∧ r = -1)
  ∨ ∃ o, tuB (fun x y => tuL d (tuK b x) (tuK b y) d.1.toNat) (cntB b 12) o ∧ ((i = -2 ∧ r = tuC (fun x y => tuL d (tuK b x) (tuK b y) d.1.toNat) (cntB b 12) o (cntB b 12)) ∨ (0 ≤ i ∧ i < (cntB b 12 : Int) ∧ r = (tuK b (o i.toNat) : Int)) ∨ (i ≠ -2 ∧ ¬ (0 ≤ i ∧ i < (cntB b 12 : Int)) ∧ r = -1))
theorem tuLt_tot {n : Nat} {o p : Nat → Nat} : tuLt n o p ∨ (∀ j, j < n → o j = p j) ∨ tuLt n p o := by
  induction n with
  | zero => exact Or.inr (Or.inl (fun j hj => absurd hj (Nat.not_lt_zero _)))
  | succ n ih =>
    rcases ih with ⟨i, h1, h2, h3⟩ | h | ⟨i, h1, h2, h3⟩
    · exact Or.inl ⟨i, by omega, h2, h3⟩
    · rcases Nat.lt_trichotomy (o n) (p n) with h4 | h4 | h4
      · exact Or.inl ⟨n, by omega, h, h4⟩
      · refine Or.inr (Or.inl (fun j hj => ?_))
        rcases Nat.lt_or_ge j n with h5 | h5
        · exact h j h5
        · rw [show j = n by omega]
          exact h4
      · exact Or.inr (Or.inr ⟨n, by omega, fun j hj => (h j hj).symm, h4⟩)
    · exact Or.inr (Or.inr ⟨i, by omega, h2, h3⟩)
theorem tuC_congr {P : Nat → Nat → Int} {n k : Nat} {o p : Nat → Nat} (hn : 0 < n) (hk : k ≤ n) (h : ∀ j, j < n → o j = p j) : tuC P n o k = tuC P n p k := by
  induction k with
  | zero => rfl
  | succ k ih =>
    show tuC P n o k + P (o k) (o ((k + 1) % n)) = tuC P n p k + P (p k) (p ((k + 1) % n))
    rw [ih (by omega), h k (by omega), h ((k + 1) % n) (Nat.mod_lt _ hn)]
/-- the first k links want the first k + 1 stops -/
theorem tuC_pre {P : Nat → Nat → Int} {n k : Nat} {o p : Nat → Nat} (hk : k < n) (h : ∀ j, j ≤ k → o j = p j) : tuC P n o k = tuC P n p k := by
  induction k with
  | zero => rfl
  | succ k ih =>
    show tuC P n o k + P (o k) (o ((k + 1) % n)) = tuC P n p k + P (p k) (p ((k + 1) % n))
    rw [ih (by omega) (fun j hj => h j (by omega)), Nat.mod_eq_of_lt hk, h k (by omega), h (k + 1) (by omega)]
theorem tuC_0 {P : Nat → Nat → Int} {n : Nat} {o : Nat → Nat} (hP : tuP P) (k : Nat) : 0 ≤ tuC P n o k := by
  induction k with
  | zero => exact Int.le_refl 0
  | succ k ih =>
    show 0 ≤ tuC P n o k + P (o k) (o ((k + 1) % n))
    have h1 := hP (o k) (o ((k + 1) % n))
    unfold tuR at h1
    omega
theorem tuC_up {P : Nat → Nat → Int} {n : Nat} {o : Nat → Nat} (hP : tuP P) {k j : Nat} (h : k ≤ j) : tuC P n o k ≤ tuC P n o j := by
  induction j with
  | zero =>
    have e : k = 0 := by omega
    subst e
    exact Int.le_refl _
  | succ j ih =>
    rcases Nat.lt_or_ge j k with h1 | h1
    · have e : k = j + 1 := by omega
      subst e
      exact Int.le_refl _
    · have h2 := ih h1
      have h3 := hP (o j) (o ((j + 1) % n))
      unfold tuR at h3
      show tuC P n o k ≤ tuC P n o j + P (o j) (o ((j + 1) % n))
      omega
/-- below far: at most 1000 a link -/
theorem tuC_bd {P : Nat → Nat → Int} {n : Nat} {o : Nat → Nat} (hP : tuP P) {k : Nat} (hk : k ≤ 8) (h : tuC P n o k < 536870912) : tuC P n o k ≤ 1000 * (k : Int) := by
  induction k with
  | zero => exact Int.le_refl 0
  | succ k ih =>
    have h3 := hP (o k) (o ((k + 1) % n))
    have h4 := tuC_0 (P := P) (n := n) (o := o) hP k
    unfold tuR at h3
    have e : tuC P n o (k + 1) = tuC P n o k + P (o k) (o ((k + 1) % n)) := rfl
    rw [e] at h ⊢
    have h5 := ih (by omega) (by omega)
    omega
/-! the stops that are left behind the k-th, as bits 0 .. n - 2 -/
def tuF (n : Nat) (o : Nat → Nat) : Nat → Nat
  | 0 => 2 ^ (n - 1) - 1
  | k + 1 => tuF n o k - 2 ^ (o (k + 1) - 1)
theorem tuOff_all : ((List.range 128).all (fun x => (List.range 7).all (fun j => (List.range 7).all (fun i => !(x.testBit j) || ((x - 2 ^ j).testBit i == (x.testBit i && decide (i ≠ j))))))) = true := by decide +kernel
theorem tuOff {x j : Nat} (hx : x < 128) (hj : j < 7) (h : x.testBit j = true) (i : Nat) : (x - 2 ^ j).testBit i = (x.testBit i && decide (i ≠ j)) := by
  rcases Nat.lt_or_ge i 7 with h1 | h1
  · have h2 := List.all_eq_true.mp (List.all_eq_true.mp (List.all_eq_true.mp tuOff_all x (List.mem_range.mpr hx)) j (List.mem_range.mpr hj)) i (List.mem_range.mpr h1)
    rw [h] at h2
    exact eq_of_beq (by simpa using h2)
  · have h3 : ∀ y, y < 128 → y.testBit i = false := fun y hy => Nat.testBit_lt_two_pow (Nat.lt_of_lt_of_le hy (show 2 ^ 7 ≤ 2 ^ i from Nat.pow_le_pow_right (by decide) h1))
    rw [h3 _ (Nat.lt_of_le_of_lt (Nat.sub_le _ _) hx), h3 _ hx, Bool.false_and]
theorem tuAll_all : ((List.range 9).all (fun n => (List.range 7).all (fun j => decide ((2 ^ (n - 1) - 1).testBit j = decide (j + 1 < n))))) = true := by decide +kernel
theorem tuAll {n j : Nat} (hn : n ≤ 8) : (2 ^ (n - 1) - 1).testBit j = decide (j + 1 < n) := by
  rcases Nat.lt_or_ge j 7 with h1 | h1
  · exact of_decide_eq_true (List.all_eq_true.mp (List.all_eq_true.mp tuAll_all n (List.mem_range.mpr (by omega))) j (List.mem_range.mpr h1))
  · have h2 : 2 ^ (n - 1) ≤ 2 ^ 7 := Nat.pow_le_pow_right (by decide) (by omega)
    have h3 : 2 ^ 7 ≤ 2 ^ j := Nat.pow_le_pow_right (by decide) h1
    have h4 : 0 < 2 ^ (n - 1) := Nat.two_pow_pos _
    rw [Nat.testBit_lt_two_pow (by omega), decide_eq_false (by omega)]
theorem tuAll_lt {n : Nat} (hn : n ≤ 8) : 2 ^ (n - 1) - 1 < 128 := by
  have h2 : 2 ^ (n - 1) ≤ 2 ^ 7 := Nat.pow_le_pow_right (by decide) (by omega)
  have h4 : 0 < 2 ^ (n - 1) := Nat.two_pow_pos _
  omega
/-- the stops up to the k-th are no two alike, of 1 .. n - 1 but the first -/
def tuW (n : Nat) (o : Nat → Nat) (k : Nat) : Prop := o 0 = 0 ∧ (∀ i, i ≤ k → o i < n) ∧ ∀ i j, i ≤ k → j ≤ k → o i = o j → i = j
theorem tuV.w {n : Nat} {o : Nat → Nat} (h : tuV n o) {k : Nat} (hk : k < n) : tuW n o k := ⟨h.1, fun i hi => h.2.1 i (by omega), fun i j hi hj e => h.2.2 i j (by omega) (by omega) e⟩
theorem tuF_bits {n : Nat} {o : Nat → Nat} (hn : n ≤ 8) {k : Nat} (h : tuW n o k) : tuF n o k < 128 ∧ ∀ j, (tuF n o k).testBit j = true ↔ (j + 1 < n ∧ ∀ t, t ≤ k → o t ≠ j + 1) := by
  induction k with
  | zero =>
    refine ⟨tuAll_lt hn, fun j => ?_⟩
    show (2 ^ (n - 1) - 1).testBit j = true ↔ _
    rw [tuAll hn, decide_eq_true_iff]
    refine ⟨fun h1 => ⟨h1, fun t ht => ?_⟩, fun h1 => h1.1⟩
    rw [show t = 0 by omega, h.1]
    omega
  | succ k ih =>
    have hw : tuW n o k := ⟨h.1, fun i hi => h.2.1 i (by omega), fun i j hi hj e => h.2.2 i j (by omega) (by omega) e⟩
    obtain ⟨h1, h2⟩ := ih hw
    have hb : o (k + 1) ≠ 0 := fun e => by
      have h9 := h.2.2 (k + 1) 0 (by omega) (by omega) (by rw [e, h.1])
      omega
    have hb2 := h.2.1 (k + 1) (Nat.le_refl _)
    have hbit : (tuF n o k).testBit (o (k + 1) - 1) = true := (h2 _).mpr ⟨by omega, fun t ht e => by
      have h9 := h.2.2 t (k + 1) (by omega) (by omega) (by omega)
      omega⟩
    have hlt : tuF n o k - 2 ^ (o (k + 1) - 1) < 128 := Nat.lt_of_le_of_lt (Nat.sub_le _ _) h1
    refine ⟨hlt, fun j => ?_⟩
    show (tuF n o k - 2 ^ (o (k + 1) - 1)).testBit j = true ↔ _
    rw [tuOff h1 (by omega) hbit, Bool.and_eq_true, h2 j, decide_eq_true_iff]
    refine ⟨fun h3 => ⟨h3.1.1, fun t ht => ?_⟩, fun h3 => ⟨⟨h3.1, fun t ht => h3.2 t (by omega)⟩, fun e => h3.2 (k + 1) (Nat.le_refl _) (by omega)⟩⟩
    rcases Nat.lt_or_ge k t with h4 | h4
    · rw [show t = k + 1 by omega]
      omega
    · exact h3.1.2 t h4
theorem tuF_cnt {n : Nat} {o : Nat → Nat} (h0 : 1 ≤ n) (hn : n ≤ 8) {k : Nat} (hk : k < n) (h : tuW n o k) : cntB (fun j => (tuF n o k).testBit j) 7 + k + 1 = n := by
  induction k with
  | zero =>
    have e : ∀ m, m ≤ 7 → cntB (fun j => (tuF n o 0).testBit j) m = if m + 1 ≤ n then m else n - 1 := by
      intro m hm
      induction m with
      | zero => rw [if_pos (by omega)]; rfl
      | succ m ih =>
        have h1 := ih (by omega)
        have h2 : (tuF n o 0).testBit m = decide (m + 1 < n) := tuAll hn
        by_cases h3 : m + 1 < n
        · rw [cntB_s (f := fun j => (tuF n o 0).testBit j) (by show (tuF n o 0).testBit m = true; rw [h2]; exact decide_eq_true h3), h1, if_pos (by omega), if_pos (by omega)]
        · rw [cntB_s0 (f := fun j => (tuF n o 0).testBit j) (by show (tuF n o 0).testBit m = false; rw [h2]; exact decide_eq_false h3), h1]
          split <;> split <;> omega
    rw [e 7 (Nat.le_refl _)]
    split <;> omega
  | succ k ih =>
    have hw : tuW n o k := ⟨h.1, fun i hi => h.2.1 i (by omega), fun i j hi hj e => h.2.2 i j (by omega) (by omega) e⟩
    have h1 := ih (by omega) hw
    obtain ⟨h2, h3⟩ := tuF_bits hn hw
    obtain ⟨_, h4⟩ := tuF_bits hn h
    have hb : o (k + 1) ≠ 0 := fun e => by
      have h9 := h.2.2 (k + 1) 0 (by omega) (by omega) (by rw [e, h.1])
      omega
    have hb2 := h.2.1 (k + 1) (Nat.le_refl _)
    have hbit : (tuF n o k).testBit (o (k + 1) - 1) = true := (h3 _).mpr ⟨by omega, fun t ht e => by
      have h9 := h.2.2 t (k + 1) (by omega) (by omega) (by omega)
      omega⟩
    have hoff : ∀ i, (tuF n o (k + 1)).testBit i = ((tuF n o k).testBit i && decide (i ≠ o (k + 1) - 1)) := fun i => tuOff h2 (by omega) hbit i
    have h5 := cntB_set (f := fun j => (tuF n o (k + 1)).testBit j) (g := fun j => (tuF n o k).testBit j) (n := 7) (a := o (k + 1) - 1) (by omega) (by
        show (tuF n o (k + 1)).testBit (o (k + 1) - 1) = false
        rw [hoff, decide_eq_false (fun h9 => h9 rfl), Bool.and_false]) (fun i => by
        show (tuF n o k).testBit i = true ↔ ((tuF n o (k + 1)).testBit i = true ∨ i = o (k + 1) - 1)
        rw [hoff, Bool.and_eq_true, decide_eq_true_iff]
        refine ⟨fun h9 => ?_, fun h9 => ?_⟩
        · by_cases e9 : i = o (k + 1) - 1
          · exact Or.inr e9
          · exact Or.inl ⟨h9, e9⟩
        · rcases h9 with h9 | h9
          · exact h9.1
          · rw [h9]
            exact hbit)
    omega
theorem cntB_0 {f : Nat → Bool} {n : Nat} (h : cntB f n = 0) : ∀ i, i < n → f i = false := by
  induction n with
  | zero => exact fun i hi => absurd hi (Nat.not_lt_zero _)
  | succ n ih =>
    cases e : f n
    · rw [cntB_s0 e] at h
      intro i hi
      rcases Nat.lt_or_ge i n with h1 | h1
      · exact ih h i h1
      · rw [show i = n by omega]
        exact e
    · rw [cntB_s e] at h
      omega
/-- an order that is done leaves nothing -/
theorem tuF_end {n : Nat} {o : Nat → Nat} (h0 : 1 ≤ n) (hn : n ≤ 8) (h : tuW n o (n - 1)) : tuF n o (n - 1) = 0 := by
  have h1 := tuF_cnt h0 hn (k := n - 1) (by omega) h
  have h2 := cntB_0 (f := fun j => (tuF n o (n - 1)).testBit j) (n := 7) (by omega)
  have h3 := (tuF_bits hn h).1
  refine Nat.eq_of_testBit_eq (fun i => ?_)
  rw [Nat.zero_testBit]
  rcases Nat.lt_or_ge i 7 with h4 | h4
  · exact h2 i h4
  · exact Nat.testBit_lt_two_pow (Nat.lt_of_lt_of_le h3 (show 2 ^ 7 ≤ 2 ^ i from Nat.pow_le_pow_right (by decide) h4))
/-- what is not done leaves something -/
theorem tuF_more {n : Nat} {o : Nat → Nat} (hn : n ≤ 8) {k : Nat} (hk : k + 1 < n) (h : tuW n o k) : tuF n o k ≠ 0 := fun e => by
  have h1 := tuF_cnt (by omega) hn (k := k) (by omega) h
  rw [e, cntB_congr (g := fun _ => false) (fun i _ => Nat.zero_testBit i)] at h1
  have h2 : cntB (fun _ => false) 7 = 0 := by decide
  omega
theorem tuV.onto {n : Nat} {o : Nat → Nat} (hn : n ≤ 8) (h : tuV n o) {x : Nat} (hx : x < n) : ∃ t, t < n ∧ o t = x := by
  rcases Nat.eq_zero_or_pos x with e | e
  · exact ⟨0, by omega, by rw [h.1, e]⟩
  · have h1 := h.w (k := n - 1) (by omega)
    have h2 := (tuF_bits hn h1).2 (x - 1)
    rw [tuF_end (by omega) hn h1, Nat.zero_testBit] at h2
    by_cases hex : ∃ t, t < n ∧ o t = x
    · exact hex
    · exact absurd (h2.mpr ⟨by omega, fun t ht e9 => hex ⟨t, by omega, by omega⟩⟩) (by decide)
theorem tuF_pre {n k : Nat} {o p : Nat → Nat} (h : ∀ j, j ≤ k → o j = p j) : tuF n o k = tuF n p k := by
  induction k with
  | zero => rfl
  | succ k ih =>
    show tuF n o k - 2 ^ (o (k + 1) - 1) = tuF n p k - 2 ^ (p (k + 1) - 1)
    rw [ih (fun j hj => h j (by omega)), h (k + 1) (Nat.le_refl _)]
/-! the table of the best rests -/
def tuMin (x y : Int) : Int := if x ≤ y then x else y
def tuG (P : Nat → Nat → Int) (F : Nat → Nat → Int) (x a b : Nat) : Int := tuMin 536870912 (P a b + F (x - 2 ^ (b - 1)) b)
def tuT (P : Nat → Nat → Int) (n : Nat) (F : Nat → Nat → Int) : Prop := ∀ x a, x < 2 ^ (n - 1) → a < n → (x = 0 → F x a = P a 0) ∧ (x ≠ 0 → F x a ≤ 536870912 ∧ (∀ b, 1 ≤ b → b < n → x.testBit (b - 1) = true → F x a ≤ tuG P F x a b) ∧ (F x a = 536870912 ∨ ∃ b, 1 ≤ b ∧ b < n ∧ x.testBit (b - 1) = true ∧ F x a = tuG P F x a b))
theorem tuF_lt {n : Nat} {o : Nat → Nat} (h0 : 1 ≤ n) : ∀ k, tuF n o k < 2 ^ (n - 1) := by
  intro k
  have h4 : 0 < 2 ^ (n - 1) := Nat.two_pow_pos _
  induction k with
  | zero => show 2 ^ (n - 1) - 1 < _; omega
  | succ k ih => exact Nat.lt_of_le_of_lt (Nat.sub_le _ _) ih
theorem tuT.low {P : Nat → Nat → Int} {n : Nat} {F : Nat → Nat → Int} (hP : tuP P) (hF : tuT P n F) (h0 : 1 ≤ n) (hn : n ≤ 8) {o : Nat → Nat} (ho : tuV n o) : ∀ m k, k + m + 1 = n → F (tuF n o k) (o k) ≤ tuC P n o n - tuC P n o k := by
  intro m
  induction m with
  | zero =>
    intro k hk
    have e : k = n - 1 := by omega
    subst e
    rw [tuF_end h0 hn (ho.w (by omega)), ((hF 0 (o (n - 1)) (Nat.two_pow_pos _) (ho.2.1 _ (by omega))).1 rfl)]
    have e2 : tuC P n o n = tuC P n o (n - 1) + P (o (n - 1)) (o 0) := by
      have e3 : tuC P n o (n - 1 + 1) = tuC P n o (n - 1) + P (o (n - 1)) (o ((n - 1 + 1) % n)) := rfl
      rw [show n - 1 + 1 = n by omega, Nat.mod_self] at e3
      exact e3
    rw [e2, ho.1]
    omega
  | succ m ih =>
    intro k hk
    have h1 := ih (k + 1) (by omega)
    have hb : o (k + 1) ≠ 0 := fun e => by
      have h9 := ho.2.2 (k + 1) 0 (by omega) (by omega) (by rw [e, ho.1])
      omega
    have hb2 := ho.2.1 (k + 1) (by omega)
    have h2 := ((hF (tuF n o k) (o k) (tuF_lt h0 k) (ho.2.1 k (by omega))).2 (tuF_more hn (by omega) (ho.w (by omega)))).2.1 (o (k + 1)) (by omega) hb2 (((tuF_bits hn (ho.w (k := k) (by omega))).2 _).mpr ⟨by omega, fun t ht e => by
      have h9 := ho.2.2 t (k + 1) (by omega) (by omega) (by omega)
      omega⟩)
    have e2 : tuC P n o (k + 1) = tuC P n o k + P (o k) (o (k + 1)) := by
      have e3 : tuC P n o (k + 1) = tuC P n o k + P (o k) (o ((k + 1) % n)) := rfl
      rw [Nat.mod_eq_of_lt (by omega)] at e3
      exact e3
    have h3 : tuG P F (tuF n o k) (o k) (o (k + 1)) ≤ P (o k) (o (k + 1)) + F (tuF n o (k + 1)) (o (k + 1)) := by
      show tuMin 536870912 (P (o k) (o (k + 1)) + F (tuF n o (k + 1)) (o (k + 1))) ≤ _
      unfold tuMin
      split <;> omega
    omega
/-! the order that the table tells -/
/-- the first of a, a + 1 .. that q holds of, f looks at most -/
def tuN (q : Nat → Bool) : Nat → Nat → Nat
  | 0, a => a
  | f + 1, a => if q a = true then a else tuN q f (a + 1)
theorem tuN_least {q : Nat → Bool} {f : Nat} : ∀ {a b : Nat}, a ≤ b → b < a + f → q b = true → q (tuN q f a) = true ∧ a ≤ tuN q f a ∧ tuN q f a ≤ b := by
  induction f with
  | zero => intro a b h1 h2; omega
  | succ f ih =>
    intro a b h1 h2 h3
    show q (if q a = true then a else tuN q f (a + 1)) = true ∧ a ≤ (if q a = true then a else tuN q f (a + 1)) ∧ (if q a = true then a else tuN q f (a + 1)) ≤ b
    by_cases e : q a = true
    · rw [if_pos e]
      exact ⟨e, Nat.le_refl _, h1⟩
    · rw [if_neg e]
      have h4 : a ≠ b := fun e2 => e (by rw [e2]; exact h3)
      have h5 := ih (a := a + 1) (b := b) (by omega) (by omega) h3
      exact ⟨h5.1, by omega, h5.2.2⟩
def tuQ (P : Nat → Nat → Int) (F : Nat → Nat → Int) (x a b : Nat) : Bool := x.testBit (b - 1) && decide (tuG P F x a b = F x a)
def tuX (P : Nat → Nat → Int) (n : Nat) (F : Nat → Nat → Int) (x a : Nat) : Nat := tuN (tuQ P F x a) (n - 1) 1
/-- (what is left, the stop) behind k steps -/
def tuS (P : Nat → Nat → Int) (n : Nat) (F : Nat → Nat → Int) : Nat → Nat × Nat
  | 0 => (2 ^ (n - 1) - 1, 0)
  | k + 1 => ((tuS P n F k).1 - 2 ^ (tuX P n F (tuS P n F k).1 (tuS P n F k).2 - 1), tuX P n F (tuS P n F k).1 (tuS P n F k).2)
def tuO (P : Nat → Nat → Int) (n : Nat) (F : Nat → Nat → Int) (k : Nat) : Nat := (tuS P n F k).2
theorem tuS_left (P : Nat → Nat → Int) (n : Nat) (F : Nat → Nat → Int) (k : Nat) : (tuS P n F k).1 = tuF n (tuO P n F) k := by
  induction k with
  | zero => rfl
  | succ k ih =>
    show (tuS P n F k).1 - 2 ^ (tuX P n F (tuS P n F k).1 (tuS P n F k).2 - 1) = tuF n (tuO P n F) k - 2 ^ (tuO P n F (k + 1) - 1)
    rw [ih]
    show _ = tuF n (tuO P n F) k - 2 ^ (tuX P n F (tuS P n F k).1 (tuS P n F k).2 - 1)
    rw [ih]
theorem tuO_next (P : Nat → Nat → Int) (n : Nat) (F : Nat → Nat → Int) (k : Nat) : tuO P n F (k + 1) = tuX P n F (tuF n (tuO P n F) k) (tuO P n F k) := by
  show tuX P n F (tuS P n F k).1 (tuS P n F k).2 = _
  rw [tuS_left]
  rfl
/-- as far as k: no two alike, the rest is what the table says -/
theorem tuO_ok {P : Nat → Nat → Int} {n : Nat} {F : Nat → Nat → Int} (hP : tuP P) (hF : tuT P n F) (h0 : 1 ≤ n) (hn : n ≤ 8) (hlt : F (2 ^ (n - 1) - 1) 0 < 536870912) : ∀ k, k < n → tuW n (tuO P n F) k ∧ tuC P n (tuO P n F) k + F (tuF n (tuO P n F) k) (tuO P n F k) = F (2 ^ (n - 1) - 1) 0 := by
  intro k
  induction k with
  | zero =>
    intro hk
    refine ⟨⟨rfl, fun i hi => ?_, fun i j hi hj _ => by omega⟩, ?_⟩
    · rw [show i = 0 by omega]
      exact h0
    · show 0 + F (2 ^ (n - 1) - 1) 0 = _
      omega
  | succ k ih =>
    intro hk
    obtain ⟨hw, hc⟩ := ih (by omega)
    have hc0 := tuC_0 (P := P) (n := n) (o := tuO P n F) hP k
    have hT := (hF (tuF n (tuO P n F) k) (tuO P n F k) (tuF_lt h0 k) (hw.2.1 k (Nat.le_refl _))).2 (tuF_more hn (by omega) hw)
    obtain ⟨b, hb1, hb2, hb3, hb4⟩ := hT.2.2.resolve_left (fun h9 => by omega)
    have hq : tuQ P F (tuF n (tuO P n F) k) (tuO P n F k) b = true := by
      unfold tuQ
      rw [hb3, decide_eq_true hb4.symm]
      rfl
    have hN := tuN_least (f := n - 1) (a := 1) (b := b) hb1 (by omega) hq
    have hN2 : tuQ P F (tuF n (tuO P n F) k) (tuO P n F k) (tuO P n F (k + 1)) = true ∧ 1 ≤ tuO P n F (k + 1) ∧ tuO P n F (k + 1) ≤ b := by
      rw [tuO_next]
      exact hN
    obtain ⟨hq2, hx1, hx2⟩ := hN2
    unfold tuQ at hq2
    rw [Bool.and_eq_true, decide_eq_true_iff] at hq2
    have hbit := ((tuF_bits hn hw).2 _).mp hq2.1
    refine ⟨⟨rfl, fun i hi => ?_, fun i j hi hj e => ?_⟩, ?_⟩
    · rcases Nat.lt_or_ge k i with h1 | h1
      · rw [show i = k + 1 by omega]
        omega
      · exact hw.2.1 i h1
    · rcases Nat.lt_or_ge k i with h1 | h1
      · rcases Nat.lt_or_ge k j with h2 | h2
        · omega
        · rw [show i = k + 1 by omega] at e
          exact absurd e.symm (fun e9 => hbit.2 j h2 (by omega))
      · rcases Nat.lt_or_ge k j with h2 | h2
        · rw [show j = k + 1 by omega] at e
          exact absurd e (fun e9 => hbit.2 i h1 (by omega))
        · exact hw.2.2 i j h1 h2 e
    · have e2 : tuC P n (tuO P n F) (k + 1) = tuC P n (tuO P n F) k + P (tuO P n F k) (tuO P n F (k + 1)) := by
        have e3 : tuC P n (tuO P n F) (k + 1) = tuC P n (tuO P n F) k + P (tuO P n F k) (tuO P n F ((k + 1) % n)) := rfl
        rw [Nat.mod_eq_of_lt (by omega)] at e3
        exact e3
      have h3 : tuG P F (tuF n (tuO P n F) k) (tuO P n F k) (tuO P n F (k + 1)) = tuMin 536870912 (P (tuO P n F k) (tuO P n F (k + 1)) + F (tuF n (tuO P n F) (k + 1)) (tuO P n F (k + 1))) := rfl
      have h4 := hq2.2
      rw [h3] at h4
      unfold tuMin at h4
      split at h4 <;> omega
theorem tuO_v {P : Nat → Nat → Int} {n : Nat} {F : Nat → Nat → Int} (hP : tuP P) (hF : tuT P n F) (h0 : 1 ≤ n) (hn : n ≤ 8) (hlt : F (2 ^ (n - 1) - 1) 0 < 536870912) : tuV n (tuO P n F) := by
  obtain ⟨hw, _⟩ := tuO_ok hP hF h0 hn hlt (n - 1) (by omega)
  exact ⟨rfl, fun i hi => hw.2.1 i (by omega), fun i j hi hj e => hw.2.2 i j (by omega) (by omega) e⟩
theorem tuO_c {P : Nat → Nat → Int} {n : Nat} {F : Nat → Nat → Int} (hP : tuP P) (hF : tuT P n F) (h0 : 1 ≤ n) (hn : n ≤ 8) (hlt : F (2 ^ (n - 1) - 1) 0 < 536870912) : tuC P n (tuO P n F) n = F (2 ^ (n - 1) - 1) 0 := by
  obtain ⟨hw, hc⟩ := tuO_ok hP hF h0 hn hlt (n - 1) (by omega)
  rw [tuF_end h0 hn hw, ((hF 0 (tuO P n F (n - 1)) (Nat.two_pow_pos _) (hw.2.1 _ (Nat.le_refl _))).1 rfl)] at hc
  have e3 : tuC P n (tuO P n F) (n - 1 + 1) = tuC P n (tuO P n F) (n - 1) + P (tuO P n F (n - 1)) (tuO P n F ((n - 1 + 1) % n)) := rfl
  rw [show n - 1 + 1 = n by omega, Nat.mod_self] at e3
  rw [e3]
  exact hc
theorem tuO_best {P : Nat → Nat → Int} {n : Nat} {F : Nat → Nat → Int} (hP : tuP P) (hF : tuT P n F) (h0 : 1 ≤ n) (hn : n ≤ 8) (hlt : F (2 ^ (n - 1) - 1) 0 < 536870912) : tuB P n (tuO P n F) := by
  have hv := tuO_v hP hF h0 hn hlt
  have hc := tuO_c hP hF h0 hn hlt
  refine ⟨hv, by rw [hc]; exact hlt, fun p hp => ?_⟩
  have hlow := tuT.low hP hF h0 hn hp (n - 1) 0 (by omega)
  have e0 : F (tuF n p 0) (p 0) = F (2 ^ (n - 1) - 1) 0 := by rw [hp.1]; rfl
  have e1 : tuC P n p 0 = 0 := rfl
  rw [e0, e1] at hlow
  refine ⟨by omega, fun hce ⟨i, hi, hpre, hless⟩ => ?_⟩
  have hi0 : i ≠ 0 := fun e => by
    rw [e, hp.1, hv.1] at hless
    omega
  obtain ⟨k, rfl⟩ : ∃ k, i = k + 1 := ⟨i - 1, by omega⟩
  obtain ⟨hw, hck⟩ := tuO_ok hP hF h0 hn hlt k (by omega)
  have hsame : ∀ j, j ≤ k → p j = tuO P n F j := fun j hj => hpre j (by omega)
  have h1 := tuT.low hP hF h0 hn hp (n - 1 - (k + 1)) (k + 1) (by omega)
  have h2 : tuC P n p (k + 1) = tuC P n (tuO P n F) k + P (tuO P n F k) (p (k + 1)) := by
    have e3 : tuC P n p (k + 1) = tuC P n p k + P (p k) (p ((k + 1) % n)) := rfl
    rw [Nat.mod_eq_of_lt (by omega), tuC_pre (by omega) hsame, hsame k (Nat.le_refl _)] at e3
    exact e3
  have h3 : tuF n p (k + 1) = tuF n (tuO P n F) k - 2 ^ (p (k + 1) - 1) := by
    show tuF n p k - 2 ^ (p (k + 1) - 1) = _
    rw [tuF_pre hsame]
  have hb : p (k + 1) ≠ 0 := fun e => by
    have h9 := hp.2.2 (k + 1) 0 (by omega) (by omega) (by rw [e, hp.1])
    omega
  have hb2 := hp.2.1 (k + 1) (by omega)
  have hbit : (tuF n (tuO P n F) k).testBit (p (k + 1) - 1) = true := by
    rw [← tuF_pre hsame]
    exact ((tuF_bits hn (hp.w (k := k) (by omega))).2 _).mpr ⟨by omega, fun t ht e => by
      have h9 := hp.2.2 t (k + 1) (by omega) (by omega) (by omega)
      omega⟩
  have hT := (hF (tuF n (tuO P n F) k) (tuO P n F k) (tuF_lt h0 k) (hw.2.1 k (Nat.le_refl _))).2 (tuF_more hn (by omega) hw)
  have h4 := hT.2.1 (p (k + 1)) (by omega) hb2 hbit
  have h5 : tuG P F (tuF n (tuO P n F) k) (tuO P n F k) (p (k + 1)) = tuMin 536870912 (P (tuO P n F k) (p (k + 1)) + F (tuF n p (k + 1)) (p (k + 1))) := by rw [h3]; rfl
  have h6 : tuG P F (tuF n (tuO P n F) k) (tuO P n F k) (p (k + 1)) = F (tuF n (tuO P n F) k) (tuO P n F k) := by
    have hc0 := tuC_0 (P := P) (n := n) (o := tuO P n F) hP k
    rw [h5] at h4 ⊢
    unfold tuMin at h4 ⊢
    split at h4 <;> rename_i h7
    · rw [if_pos h7]
      omega
    · rw [if_neg h7]
      omega
  have hN := tuN_least (q := tuQ P F (tuF n (tuO P n F) k) (tuO P n F k)) (f := n - 1) (a := 1) (b := p (k + 1)) (by omega) (by omega) (by
    unfold tuQ
    rw [hbit, decide_eq_true h6]
    rfl)
  have h8 : tuO P n F (k + 1) ≤ p (k + 1) := by
    rw [tuO_next]
    exact hN.2.2
  omega
theorem tuB.eq {P : Nat → Nat → Int} {n : Nat} {o p : Nat → Nat} (h1 : tuB P n o) (h2 : tuB P n p) : (∀ j, j < n → o j = p j) ∧ tuC P n o n = tuC P n p n := by
  have a1 := h1.2.2 p h2.1
  have a2 := h2.2.2 o h1.1
  have e : tuC P n o n = tuC P n p n := by omega
  refine ⟨?_, e⟩
  rcases tuLt_tot (n := n) (o := o) (p := p) with h | h | h
  · exact absurd h (a2.2 e)
  · exact h
  · exact absurd h (a1.2 e.symm)
theorem tuA.eq {d : NtD} {b : Nat → Bool} {i r s : Int} (h1 : tuA d b i r) (h2 : tuA d b i s) : r = s := by
  rcases h1 with ⟨n1, e1⟩ | ⟨o, ho, a1⟩
  · rcases h2 with ⟨_, e2⟩ | ⟨p, hp, _⟩
    · omega
    · exact absurd hp.2.1 (n1 p hp.1)
  · rcases h2 with ⟨n2, _⟩ | ⟨p, hp, a2⟩
    · exact absurd ho.2.1 (n2 o ho.1)
    · obtain ⟨he, hc⟩ := ho.eq hp
      rcases a1 with ⟨i1, r1⟩ | ⟨i1, j1, r1⟩ | ⟨i1, j1, r1⟩
      · rcases a2 with ⟨i2, r2⟩ | ⟨i2, j2, r2⟩ | ⟨i2, j2, r2⟩
        · exact r1.trans (hc.trans r2.symm)
        · omega
        · omega
      · rcases a2 with ⟨i2, r2⟩ | ⟨i2, j2, r2⟩ | ⟨i2, j2, r2⟩
        · omega
        · rw [r1, r2, he i.toNat (by omega)]
        · omega
      · rcases a2 with ⟨i2, r2⟩ | ⟨i2, j2, r2⟩ | ⟨i2, j2, r2⟩
        · omega
        · omega
        · omega
theorem tuPd {d : NtD} (hv : tVal d) (h0 : 0 ≤ d.1) (b : Nat → Bool) : tuP (fun x y => tuL d (tuK b x) (tuK b y) d.1.toNat) := fun x y => tuL_r hv _ _ (by omega)
/-! what a table tells -/
theorem tuA.none {d : NtD} {b : Nat → Bool} {F : Nat → Nat → Int} {i r : Int} (hv : tVal d) (h0 : 0 ≤ d.1) (hn1 : 1 ≤ cntB b 12) (hn8 : cntB b 12 ≤ 8) (hF : tuT (fun x y => tuL d (tuK b x) (tuK b y) d.1.toNat) (cntB b 12) F) (hf : ¬ F (2 ^ (cntB b 12 - 1) - 1) 0 < 536870912) (hr : r = -1) : tuA d b i r := by
  refine Or.inl ⟨fun p hp hlt => hf ?_, hr⟩
  have hlow := tuT.low (tuPd hv h0 b) hF hn1 hn8 hp (cntB b 12 - 1) 0 (by omega)
  have e0 : F (tuF (cntB b 12) p 0) (p 0) = F (2 ^ (cntB b 12 - 1) - 1) 0 := by rw [hp.1]; rfl
  have e1 : tuC (fun x y => tuL d (tuK b x) (tuK b y) d.1.toNat) (cntB b 12) p 0 = 0 := rfl
  rw [e0, e1] at hlow
  omega
theorem tuA.cost {d : NtD} {b : Nat → Bool} {F : Nat → Nat → Int} {i r : Int} (hv : tVal d) (h0 : 0 ≤ d.1) (hn1 : 1 ≤ cntB b 12) (hn8 : cntB b 12 ≤ 8) (hF : tuT (fun x y => tuL d (tuK b x) (tuK b y) d.1.toNat) (cntB b 12) F) (hf : F (2 ^ (cntB b 12 - 1) - 1) 0 < 536870912) (hi : i = -2) (hr : r = F (2 ^ (cntB b 12 - 1) - 1) 0) : tuA d b i r :=
  Or.inr ⟨_, tuO_best (tuPd hv h0 b) hF hn1 hn8 hf, Or.inl ⟨hi, hr.trans (tuO_c (tuPd hv h0 b) hF hn1 hn8 hf).symm⟩⟩
theorem tuA.out {d : NtD} {b : Nat → Bool} {F : Nat → Nat → Int} {i r : Int} (hv : tVal d) (h0 : 0 ≤ d.1) (hn1 : 1 ≤ cntB b 12) (hn8 : cntB b 12 ≤ 8) (hF : tuT (fun x y => tuL d (tuK b x) (tuK b y) d.1.toNat) (cntB b 12) F) (hf : F (2 ^ (cntB b 12 - 1) - 1) 0 < 536870912) (hi : i ≠ -2) (hi2 : ¬ (0 ≤ i ∧ i < (cntB b 12 : Int))) (hr : r = -1) : tuA d b i r :=
  Or.inr ⟨_, tuO_best (tuPd hv h0 b) hF hn1 hn8 hf, Or.inr (Or.inr ⟨hi, hi2, hr⟩)⟩
theorem tuA.stop {d : NtD} {b : Nat → Bool} {F : Nat → Nat → Int} {i r : Int} (hv : tVal d) (h0 : 0 ≤ d.1) (hn1 : 1 ≤ cntB b 12) (hn8 : cntB b 12 ≤ 8) (hF : tuT (fun x y => tuL d (tuK b x) (tuK b y) d.1.toNat) (cntB b 12) F) (hf : F (2 ^ (cntB b 12 - 1) - 1) 0 < 536870912) (hi : 0 ≤ i ∧ i < (cntB b 12 : Int)) (hr : r = (tuK b (tuO (fun x y => tuL d (tuK b x) (tuK b y) d.1.toNat) (cntB b 12) F i.toNat) : Int)) : tuA d b i r :=
  Or.inr ⟨_, tuO_best (tuPd hv h0 b) hF hn1 hn8 hf, Or.inr (Or.inl ⟨hi.1, hi.2, hr⟩)⟩
/-! one order after the other -/
theorem tuLt.tr {n : Nat} {a b c : Nat → Nat} (h1 : tuLt n a b) (h2 : tuLt n b c) : tuLt n a c := by
  obtain ⟨i, hi, e1, l1⟩ := h1
  obtain ⟨j, hj, e2, l2⟩ := h2
  rcases Nat.lt_trichotomy i j with h | h | h
  · exact ⟨i, hi, fun t ht => (e1 t ht).trans (e2 t (by omega)), by rw [← e2 i h]; exact l1⟩
  · subst h
    exact ⟨i, hi, fun t ht => (e1 t ht).trans (e2 t ht), by omega⟩
  · exact ⟨j, hj, fun t ht => (e1 t (by omega)).trans (e2 t ht), by rw [e1 j h]; exact l2⟩
theorem tuLt.irr {n : Nat} {o : Nat → Nat} (h : tuLt n o o) : False := by
  obtain ⟨i, _, _, h⟩ := h
  exact Nat.lt_irrefl _ h
theorem tuLt.cg {n : Nat} {o p q : Nat → Nat} (h : tuLt n o p) (e : ∀ j, j < n → q j = o j) : tuLt n q p := by
  obtain ⟨i, hi, e1, l1⟩ := h
  exact ⟨i, hi, fun t ht => (e t (by omega)).trans (e1 t ht), by rw [e i hi]; exact l1⟩
theorem tuDesc {n k : Nat} {o : Nat → Nat} (h : ∀ t, k < t → t + 1 < n → o (t + 1) < o t) {s t : Nat} (hs : k < s) (hst : s ≤ t) (ht : t < n) : o t ≤ o s := by
  induction t with
  | zero => omega
  | succ t ih =>
    rcases Nat.lt_or_ge t s with h1 | h1
    · rw [show t + 1 = s by omega]
      exact Nat.le_refl _
    · have h2 := ih h1 (by omega)
      have h3 := h t (by omega) ht
      omega
theorem tuAsc {n k : Nat} {o : Nat → Nat} (h : ∀ t, k < t → t + 1 < n → o t < o (t + 1)) {s t : Nat} (hs : k < s) (hst : s ≤ t) (ht : t < n) : o s ≤ o t := by
  induction t with
  | zero => omega
  | succ t ih =>
    rcases Nat.lt_or_ge t s with h1 | h1
    · rw [show t + 1 = s by omega]
      exact Nat.le_refl _
    · have h2 := ih h1 (by omega)
      have h3 := h t (by omega) ht
      omega
/-- a value of p at i stands in o behind i, where both are alike ahead of i -/
theorem tuIn {n : Nat} {o p : Nat → Nat} (hn : n ≤ 8) (ho : tuV n o) (hp : tuV n p) {i : Nat} (hi : i < n) (hpre : ∀ j, j < i → o j = p j) : ∃ t, i ≤ t ∧ t < n ∧ o t = p i := by
  obtain ⟨t, ht, et⟩ := ho.onto hn (hp.2.1 i hi)
  refine ⟨t, ?_, ht, et⟩
  rcases Nat.lt_or_ge t i with h1 | h1
  · have h2 := hpre t h1
    have h3 := hp.2.2 t i ht hi (by omega)
    omega
  · exact h1
theorem tuNo {n k : Nat} {o p : Nat → Nat} (hn : n ≤ 8) (ho : tuV n o) (hp : tuV n p) (hd : ∀ t, k < t → t + 1 < n → o (t + 1) < o t) {i : Nat} (hk : k < i) (hi : i < n) (hpre : ∀ j, j < i → o j = p j) (hl : o i < p i) : False := by
  obtain ⟨t, h1, h2, h3⟩ := tuIn hn ho hp hi hpre
  have h4 := tuDesc hd hk h1 h2
  omega
theorem tuNo2 {n k : Nat} {g p : Nat → Nat} (hn : n ≤ 8) (hg : tuV n g) (hp : tuV n p) (ha : ∀ t, k < t → t + 1 < n → g t < g (t + 1)) {i : Nat} (hk : k < i) (hi : i < n) (hpre : ∀ j, j < i → p j = g j) (hl : p i < g i) : False := by
  obtain ⟨t, h1, h2, h3⟩ := tuIn hn hg hp hi (fun j hj => (hpre j hj).symm)
  have h4 := tuAsc ha hk h1 h2
  omega
theorem tuNx {n k : Nat} {o g p : Nat → Nat} (hn : n ≤ 8) (ho : tuV n o) (hg : tuV n g) (hp : tuV n p) (hpre : ∀ j, j < k → g j = o j) (hmin : ∀ t, k < t → t < n → o k < o t → g k ≤ o t) (hd : ∀ t, k < t → t + 1 < n → o (t + 1) < o t) (ha : ∀ t, k < t → t + 1 < n → g t < g (t + 1)) (h : tuLt n p g) : tuLt n p o ∨ ∀ j, j < n → p j = o j := by
  rcases tuLt_tot (n := n) (o := p) (p := o) with h1 | h1 | ⟨i, hi, hq, hl⟩
  · exact Or.inl h1
  · exact Or.inr h1
  · exfalso
    obtain ⟨i2, hi2, hq2, hl2⟩ := h
    rcases Nat.lt_trichotomy i k with hik | hik | hik
    · rcases Nat.lt_trichotomy i2 i with h3 | h3 | h3
      · have a1 := hq i2 h3
        have b1 := hpre i2 (by omega)
        omega
      · subst h3
        have b1 := hpre i2 hik
        omega
      · have a1 := hq2 i h3
        have b1 := hpre i hik
        omega
    · subst hik
      obtain ⟨t, h4, ht, et⟩ := tuIn hn ho hp hi hq
      have h6 : t ≠ i := fun e => by
        rw [e] at et
        omega
      have h5 := hmin t (by omega) ht (by omega)
      rcases Nat.lt_trichotomy i2 i with h3 | h3 | h3
      · have a1 := hq i2 h3
        have b1 := hpre i2 h3
        omega
      · subst h3
        omega
      · exact tuNo2 hn hg hp ha h3 hi2 hq2 hl2
    · exact tuNo hn ho hp hd hik hi hq hl
/-- be: the least cost of the orders of D (-1: none), tb its nodes, the first such -/
def tuH (P : Nat → Nat → Int) (n : Nat) (M : Nat → Nat) (D : (Nat → Nat) → Prop) (be : Int) (tb : Nat → Int) : Prop := (be = -1 ∧ ∀ p, tuV n p → D p → ¬ tuC P n p n < 536870912) ∨ ∃ q, tuV n q ∧ D q ∧ tuC P n q n = be ∧ be < 536870912 ∧ (∀ j, j < n → tb j = (M (q j) : Int)) ∧ ∀ p, tuV n p → D p → be ≤ tuC P n p n ∧ (tuC P n p n = be → ¬ tuLt n p q)
def tuD (n : Nat) (o p : Nat → Nat) : Prop := tuLt n p o ∨ ∀ j, j < n → p j = o j
theorem tuH.start {P : Nat → Nat → Int} {n : Nat} {M : Nat → Nat} {o : Nat → Nat} {be : Int} {tb : Nat → Int} (ho : ∀ j, j < n → o j = j) (hb : be = -1) : tuH P n M (fun p => tuLt n p o) be tb := by
  refine Or.inl ⟨hb, fun p hp ⟨i, hi, hpre, hl⟩ => ?_⟩
  have h1 := ho i hi
  have h2 := hpre (p i) (by omega)
  rw [ho (p i) (by omega)] at h2
  have h3 := hp.2.2 (p i) i (by omega) hi h2
  omega
theorem tuH.far {P : Nat → Nat → Int} {n : Nat} {M : Nat → Nat} {o : Nat → Nat} {be : Int} {tb : Nat → Int} (hn : 0 < n) (h : tuH P n M (fun p => tuLt n p o) be tb) (hc : ¬ tuC P n o n < 536870912) : tuH P n M (tuD n o) be tb := by
  rcases h with ⟨h1, h2⟩ | ⟨q, h1, h2, h3, h4, h5, h6⟩
  · refine Or.inl ⟨h1, fun p hp hd => ?_⟩
    rcases hd with hd | hd
    · exact h2 p hp hd
    · rw [tuC_congr hn (Nat.le_refl _) hd]
      exact hc
  · refine Or.inr ⟨q, h1, Or.inl h2, h3, h4, h5, fun p hp hd => ?_⟩
    rcases hd with hd | hd
    · exact h6 p hp hd
    · have e := tuC_congr (P := P) hn (Nat.le_refl n) hd
      exact ⟨by omega, fun h9 => by omega⟩
theorem tuH.more {P : Nat → Nat → Int} {n : Nat} {M : Nat → Nat} {o : Nat → Nat} {be : Int} {tb : Nat → Int} (hn : 0 < n) (h : tuH P n M (fun p => tuLt n p o) be tb) (hb : be ≠ -1) (hc : ¬ tuC P n o n < be) : tuH P n M (tuD n o) be tb := by
  rcases h with ⟨h1, h2⟩ | ⟨q, h1, h2, h3, h4, h5, h6⟩
  · exact absurd h1 hb
  · refine Or.inr ⟨q, h1, Or.inl h2, h3, h4, h5, fun p hp hd => ?_⟩
    rcases hd with hd | hd
    · exact h6 p hp hd
    · have e := tuC_congr (P := P) hn (Nat.le_refl n) hd
      refine ⟨by omega, fun _ h9 => ?_⟩
      exact (tuLt.tr h2 (h9.cg (fun j hj => (hd j hj).symm))).irr
theorem tuH.less {P : Nat → Nat → Int} {n : Nat} {M : Nat → Nat} {o : Nat → Nat} {be c : Int} {tb tb2 : Nat → Int} (hP : tuP P) (hn : 0 < n) (ho : tuV n o) (h : tuH P n M (fun p => tuLt n p o) be tb) (hc : c = tuC P n o n) (hf : c < 536870912) (hb : be = -1 ∨ c < be) (ht : ∀ j, j < n → tb2 j = (M (o j) : Int)) : tuH P n M (tuD n o) c tb2 := by
  refine Or.inr ⟨o, ho, Or.inr (fun j _ => rfl), hc.symm, hf, ht, fun p hp hd => ?_⟩
  rcases hd with hd | hd
  · rcases h with ⟨h1, h2⟩ | ⟨q, h1, h2, h3, h4, h5, h6⟩
    · have h9 := h2 p hp hd
      exact ⟨by omega, fun h8 => by omega⟩
    · have h9 := (h6 p hp hd).1
      rcases hb with hb | hb
      · have h10 := tuC_0 (P := P) (n := n) (o := q) hP n
        omega
      · exact ⟨by omega, fun h8 => by omega⟩
  · have e := tuC_congr (P := P) hn (Nat.le_refl n) hd
    exact ⟨by omega, fun _ h9 => (h9.cg (fun j hj => (hd j hj).symm)).irr⟩
theorem tuH.next {P : Nat → Nat → Int} {n k : Nat} {M : Nat → Nat} {o g : Nat → Nat} {be : Int} {tb : Nat → Int} (hn : n ≤ 8) (ho : tuV n o) (hg : tuV n g) (hk : k < n) (hpre : ∀ j, j < k → g j = o j) (hlt : o k < g k) (hmin : ∀ t, k < t → t < n → o k < o t → g k ≤ o t) (hd : ∀ t, k < t → t + 1 < n → o (t + 1) < o t) (ha : ∀ t, k < t → t + 1 < n → g t < g (t + 1)) (h : tuH P n M (tuD n o) be tb) : tuH P n M (fun p => tuLt n p g) be tb := by
  have hog : tuLt n o g := ⟨k, hk, fun j hj => (hpre j hj).symm, hlt⟩
  rcases h with ⟨h1, h2⟩ | ⟨q, h1, h2, h3, h4, h5, h6⟩
  · exact Or.inl ⟨h1, fun p hp hd9 => h2 p hp (tuNx hn ho hg hp hpre hmin hd ha hd9)⟩
  · refine Or.inr ⟨q, h1, ?_, h3, h4, h5, fun p hp hd9 => h6 p hp (tuNx hn ho hg hp hpre hmin hd ha hd9)⟩
    rcases h2 with h2 | h2
    · exact h2.tr hog
    · exact hog.cg h2
theorem tuH.last {P : Nat → Nat → Int} {n : Nat} {M : Nat → Nat} {o : Nat → Nat} {be : Int} {tb : Nat → Int} (hn : n ≤ 8) (ho : tuV n o) (hd : ∀ t, 0 < t → t + 1 < n → o (t + 1) < o t) (h : tuH P n M (tuD n o) be tb) : tuH P n M (fun _ => True) be tb := by
  have hall : ∀ p, tuV n p → tuD n o p := fun p hp => by
    rcases tuLt_tot (n := n) (o := p) (p := o) with h1 | h1 | ⟨i, hi, hq, hl⟩
    · exact Or.inl h1
    · exact Or.inr h1
    · exfalso
      rcases Nat.eq_zero_or_pos i with e | e
      · rw [e, hp.1, ho.1] at hl
        omega
      · exact tuNo hn ho hp hd e hi hq hl
  rcases h with ⟨h1, h2⟩ | ⟨q, h1, h2, h3, h4, h5, h6⟩
  · exact Or.inl ⟨h1, fun p hp _ => h2 p hp (hall p hp)⟩
  · exact Or.inr ⟨q, h1, trivial, h3, h4, h5, fun p hp _ => h6 p hp (hall p hp)⟩
theorem tuH.ans {d : NtD} {b : Nat → Bool} {be i r : Int} {tb : Nat → Int} (hv : tVal d) (h0 : 0 ≤ d.1) (h : tuH (fun x y => tuL d (tuK b x) (tuK b y) d.1.toNat) (cntB b 12) (tuK b) (fun _ => True) be tb) (hr : (i = -2 ∧ r = be) ∨ (i ≠ -2 ∧ (be = -1 ∨ i < 0 ∨ (cntB b 12 : Int) ≤ i) ∧ r = -1) ∨ (be ≠ -1 ∧ 0 ≤ i ∧ i < (cntB b 12 : Int) ∧ r = tb i.toNat)) : tuA d b i r := by
  rcases h with ⟨h1, h2⟩ | ⟨q, h1, _, h3, h4, h5, h6⟩
  · refine Or.inl ⟨fun p hp => h2 p hp trivial, ?_⟩
    rcases hr with hr | hr | hr <;> omega
  · have hB : tuB (fun x y => tuL d (tuK b x) (tuK b y) d.1.toNat) (cntB b 12) q := ⟨h1, by rw [h3]; exact h4, fun p hp => by
      have h9 := h6 p hp trivial
      rw [h3]
      exact h9⟩
    refine Or.inr ⟨q, hB, ?_⟩
    rcases hr with ⟨hr, hr2⟩ | ⟨hr, hr2, hr3⟩ | ⟨hr, hr2, hr3, hr4⟩
    · exact Or.inl ⟨hr, by rw [hr2, h3]⟩
    · by_cases hbe : be = -1
      · have h10 := tuC_0 (n := cntB b 12) (o := q) (tuPd hv h0 b) (cntB b 12)
        omega
      · exact Or.inr (Or.inr ⟨hr, by omega, hr3⟩)
    · exact Or.inr (Or.inl ⟨hr2, hr3, by rw [hr4]; exact h5 _ (by omega)⟩)
