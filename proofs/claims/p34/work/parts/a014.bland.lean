/-! the least-number rule ends -/
def iS : Nat → (Nat → Int) → Int
  | 0, _ => 0
  | n + 1, f => iS n f + f n
theorem iS_congr {n : Nat} {f g : Nat → Int} (h : ∀ j, j < n → f j = g j) : iS n f = iS n g := by
  induction n with
  | zero => rfl
  | succ n ih => simp only [iS]; rw [ih (fun j hj => h j (by omega)), h n (by omega)]
theorem iS_add (n : Nat) (f g : Nat → Int) : iS n (fun j => f j + g j) = iS n f + iS n g := by
  induction n with
  | zero => rfl
  | succ n ih => simp only [iS]; rw [ih]; omega
theorem iS_mul (n : Nat) (k : Int) (f : Nat → Int) : iS n (fun j => k * f j) = k * iS n f := by
  induction n with
  | zero => simp [iS]
  | succ n ih => simp only [iS]; rw [ih, Int.mul_add]
theorem iS_zero {n : Nat} {f : Nat → Int} (h : ∀ j, j < n → f j = 0) : iS n f = 0 := by
  induction n with
  | zero => rfl
  | succ n ih => simp only [iS]; rw [ih (fun j hj => h j (by omega)), h n (by omega)]; rfl
/-- all but one place -/
theorem iS_split {n c : Nat} (hc : c < n) (f : Nat → Int) : iS n f = iS n (fun j => if j = c then 0 else f j) + f c := by
  induction n with
  | zero => omega
  | succ n ih =>
    simp only [iS]
    by_cases e : c = n
    · rw [if_pos e.symm, e]
      have : iS n (fun j => if j = n then 0 else f j) = iS n f := iS_congr fun j hj => if_neg (by omega)
      rw [this]; omega
    · rw [if_neg (fun h => e h.symm), ih (by omega)]; omega
theorem iS_one {n c : Nat} (hc : c < n) {f : Nat → Int} (h : ∀ j, j < n → j ≠ c → f j = 0) : iS n f = f c := by
  rw [iS_split hc, iS_zero (fun j hj => by by_cases e : j = c; rw [if_pos e]; rw [if_neg e]; exact h j hj e)]
  omega
theorem iS_below {n : Nat} {f : Nat → Int} (h : iS n f < 0) : ∃ j, j < n ∧ f j < 0 := by
  induction n with
  | zero => simp [iS] at h
  | succ n ih =>
    simp only [iS] at h
    by_cases e : f n < 0
    · exact ⟨n, by omega, e⟩
    · obtain ⟨j, hj, hf⟩ := ih (by omega)
      exact ⟨j, by omega, hf⟩
/-- a tableau: entries, the divisor, the labels of rows and columns -/
abbrev Tb : Type := (Nat → Nat → Int) × Int × (Nat → Nat) × (Nat → Nat)
/-- x keeps the rows -/
def Sys (m n : Nat) (S : Tb) (x : Nat → Int) : Prop := ∀ i, i < m → S.2.1 * x (S.2.2.1 i) + iS n (fun j => S.1 i j * x (S.2.2.2 j)) = 0
/-- an exchange in row r, column c; g is the sign of its entry -/
def Piv (m n : Nat) (S S' : Tb) (r c : Nat) (g : Int) : Prop :=
  r < m ∧ c < n ∧ g * g = 1 ∧ 0 < S.2.1 ∧ 0 < S'.2.1 ∧ S'.2.1 = g * S.1 r c ∧ S'.1 r c = g * S.2.1 ∧
  (∀ j, j < n → j ≠ c → S'.1 r j = g * S.1 r j) ∧ (∀ i, i < m → i ≠ r → S'.1 i c = - (g * S.1 i c)) ∧
  (∀ i, i < m → i ≠ r → ∀ j, j < n → j ≠ c → S.2.1 * S'.1 i j = g * (S.1 i j * S.1 r c - S.1 i c * S.1 r j)) ∧
  S'.2.2.1 r = S.2.2.2 c ∧ (∀ i, i < m → i ≠ r → S'.2.2.1 i = S.2.2.1 i) ∧ S'.2.2.2 c = S.2.2.1 r ∧ (∀ j, j < n → j ≠ c → S'.2.2.2 j = S.2.2.2 j)
theorem Piv.symm {m n : Nat} {S S' : Tb} {r c : Nat} {g : Int} (h : Piv m n S S' r c g) : Piv m n S' S r c g := by
  obtain ⟨hr, hc, hg, hD, hD', e1, e2, e3, e4, e5, e6, e7, e8, e9⟩ := h
  have gg : ∀ x : Int, g * (g * x) = x := fun x => by rw [← Int.mul_assoc, hg, Int.one_mul]
  refine ⟨hr, hc, hg, hD', hD, by rw [e2, gg], by rw [e1, gg], fun j hj hn => by rw [e3 j hj hn, gg], fun i hi hn => by rw [e4 i hi hn, Int.mul_neg, gg, Int.neg_neg], fun i hi hn j hj hm => ?_, e8.symm, fun i hi hn => (e7 i hi hn).symm, e6.symm, fun j hj hn => (e9 j hj hn).symm⟩
  have h1 := e5 i hi hn j hj hm
  rw [e2, e4 i hi hn, e3 j hj hm, e1]
  have h2 : g * (S'.1 i j * (g * S.2.1) - -(g * S.1 i c) * (g * S.1 r j)) = g * g * (S.2.1 * S'.1 i j) + g * (g * g) * (S.1 i c * S.1 r j) := by
    rw [Int.mul_sub, Int.neg_mul, Int.mul_neg, Int.sub_neg]
    congr 1
    · rw [Int.mul_left_comm (S'.1 i j) g, ← Int.mul_assoc, Int.mul_comm (S'.1 i j)]
    · rw [Int.mul_assoc g (S.1 i c), Int.mul_left_comm (S.1 i c) g, ← Int.mul_assoc, ← Int.mul_assoc, ← Int.mul_assoc]
      simp [Int.mul_assoc]
  rw [h2, hg, h1, Int.one_mul, Int.mul_one, Int.mul_sub]
  rw [Int.mul_comm (S.1 i j), Int.mul_assoc]
  omega
theorem Piv.sys {m n : Nat} {S S' : Tb} {r c : Nat} {g : Int} (h : Piv m n S S' r c g) {x : Nat → Int} (hx : Sys m n S x) : Sys m n S' x := by
  obtain ⟨hr, hc, hg, hD, hD', e1, e2, e3, e4, e5, e6, e7, e8, e9⟩ := h
  have hrow := hx r hr
  rw [iS_split hc] at hrow
  intro i hi
  rw [iS_split hc]
  by_cases hn : i = r
  · subst hn
    have h1 : iS n (fun j => if j = c then 0 else S'.1 i j * x (S'.2.2.2 j)) = g * iS n (fun j => if j = c then 0 else S.1 i j * x (S.2.2.2 j)) := by
      rw [← iS_mul]
      exact iS_congr fun j hj => by
        by_cases e : j = c
        · rw [if_pos e, if_pos e, Int.mul_zero]
        · rw [if_neg e, if_neg e, e3 j hj e, e9 j hj e, Int.mul_assoc]
    rw [h1, e1, e2, e6, e8]
    have h2 := congrArg (fun z => g * z) hrow
    simp only [Int.mul_zero, Int.mul_add] at h2
    rw [Int.mul_assoc, Int.mul_assoc]
    omega
  · have hri := hx i hi
    rw [iS_split hc] at hri
    have h1 : S.2.1 * iS n (fun j => if j = c then 0 else S'.1 i j * x (S'.2.2.2 j)) = (g * S.1 r c) * iS n (fun j => if j = c then 0 else S.1 i j * x (S.2.2.2 j)) + (- (g * S.1 i c)) * iS n (fun j => if j = c then 0 else S.1 r j * x (S.2.2.2 j)) := by
      rw [← iS_mul, ← iS_mul, ← iS_mul, ← iS_add]
      exact iS_congr fun j hj => by
        by_cases e : j = c
        · rw [if_pos e, if_pos e, if_pos e, Int.mul_zero, Int.mul_zero, Int.mul_zero]; rfl
        · rw [if_neg e, if_neg e, if_neg e, e9 j hj e, ← Int.mul_assoc, e5 i hi hn j hj e, Int.mul_sub, Int.sub_mul, Int.neg_mul]
          rw [Int.mul_comm (S.1 i j), ← Int.mul_assoc g, Int.mul_assoc (g * S.1 r c), ← Int.mul_assoc g, Int.mul_assoc (g * S.1 i c)]
          rfl
    have h2 : S.2.1 * (S'.2.1 * x (S'.2.2.1 i) + (iS n (fun j => if j = c then 0 else S'.1 i j * x (S'.2.2.2 j)) + S'.1 i c * x (S'.2.2.2 c))) = 0 := by
      rw [Int.mul_add, Int.mul_add, h1, e1, e4 i hi hn, e7 i hi hn, e8]
      have a1 := congrArg (fun z => (g * S.1 r c) * z) hri
      have a2 := congrArg (fun z => (g * S.1 i c) * z) hrow
      simp only [Int.mul_zero, Int.mul_add] at a1 a2
      have b1 : S.2.1 * (g * S.1 r c * x (S.2.2.1 i)) = g * S.1 r c * (S.2.1 * x (S.2.2.1 i)) := Int.mul_left_comm _ _ _
      have b2 : S.2.1 * (-(g * S.1 i c) * x (S.2.2.1 r)) = - (g * S.1 i c * (S.2.1 * x (S.2.2.1 r))) := by
        rw [Int.neg_mul, Int.mul_neg, Int.mul_left_comm]
      have b3 : g * S.1 r c * (S.1 i c * x (S.2.2.2 c)) = g * S.1 i c * (S.1 r c * x (S.2.2.2 c)) := by
        rw [Int.mul_assoc, Int.mul_assoc, Int.mul_left_comm (S.1 r c)]
      rw [b1, b2, Int.neg_mul]
      omega
    exact (Int.mul_eq_zero.mp h2).resolve_left (by omega)
/-- labels are apart -/
def Lb (m n : Nat) (S : Tb) : Prop := (∀ i k, i < m → k < m → S.2.2.1 i = S.2.2.1 k → i = k) ∧ (∀ j k, j < n → k < n → S.2.2.2 j = S.2.2.2 k → j = k) ∧ ∀ i j, i < m → j < n → S.2.2.1 i ≠ S.2.2.2 j
theorem Piv.lb {m n : Nat} {S S' : Tb} {r c : Nat} {g : Int} (h : Piv m n S S' r c g) (hL : Lb m n S) : Lb m n S' := by
  obtain ⟨hr, hc, -, -, -, -, -, -, -, -, e6, e7, e8, e9⟩ := h
  obtain ⟨l1, l2, l3⟩ := hL
  refine ⟨fun i k hi hk e => ?_, fun j k hj hk e => ?_, fun i j hi hj e => ?_⟩
  · by_cases a : i = r <;> by_cases b : k = r
    · omega
    · rw [a, e6, e7 k hk b] at e; exact absurd e.symm (l3 k c hk hc)
    · rw [b, e6, e7 i hi a] at e; exact absurd e (l3 i c hi hc)
    · rw [e7 i hi a, e7 k hk b] at e; exact l1 i k hi hk e
  · by_cases a : j = c <;> by_cases b : k = c
    · omega
    · rw [a, e8, e9 k hk b] at e; exact absurd e (l3 r k hr hk)
    · rw [b, e8, e9 j hj a] at e; exact absurd e.symm (l3 r j hr hj)
    · rw [e9 j hj a, e9 k hk b] at e; exact l2 j k hj hk e
  · by_cases a : i = r <;> by_cases b : j = c
    · rw [a, b, e6, e8] at e; exact l3 r c hr hc e.symm
    · rw [a, e6, e9 j hj b] at e; exact b (l2 c j hc hj e).symm
    · rw [b, e8, e7 i hi a] at e; exact a (l1 i r hi hr e)
    · rw [e7 i hi a, e9 j hj b] at e; exact l3 i j hi hj e
/-- the value of a label is nought (or it stands over a column) -/
def Val0 (R C : Nat) (S : Tb) (q : Nat) : Prop := ∀ i, i < R → S.2.2.1 i = q → S.1 i C = 0
/-- the rule's choice: row r (below R), column c; gr is the goal's row, C the column of the numbers alone, st the labels that are held still -/
def Rul (R m n C gr : Nat) (st : Nat → Prop) (S : Tb) (r c : Nat) : Prop :=
  r < R ∧ c < n ∧ c ≠ C ∧ 0 < S.1 r c ∧ S.1 gr c < 0 ∧ ¬ st (S.2.2.2 c) ∧
  (∀ k, k < n → ¬ st (S.2.2.2 k) → S.1 gr k < 0 → S.2.2.2 c ≤ S.2.2.2 k) ∧
  (∀ i, i < R → 0 < S.1 i c → S.1 r C * S.1 i c < S.1 i C * S.1 r c ∨ (S.1 r C * S.1 i c = S.1 i C * S.1 r c ∧ S.2.2.1 r ≤ S.2.2.1 i))
noncomputable def dir (m : Nat) (S : Tb) (c : Nat) (q : Nat) : Int :=
  if q = S.2.2.2 c then S.2.1 else @dite Int (∃ i, i < m ∧ S.2.2.1 i = q) (Classical.propDecidable _) (fun h => - S.1 (Classical.choose h) c) (fun _ => 0)
theorem dir_in {m n : Nat} {S : Tb} {c : Nat} (hc : c < n) (hL : Lb m n S) {i : Nat} (hi : i < m) : dir m S c (S.2.2.1 i) = - S.1 i c := by
  unfold dir
  rw [if_neg (hL.2.2 i c hi hc)]
  have h : ∃ k, k < m ∧ S.2.2.1 k = S.2.2.1 i := ⟨i, hi, rfl⟩
  rw [dif_pos h, hL.1 _ i (Classical.choose_spec h).1 hi (Classical.choose_spec h).2]
theorem dir_c (m : Nat) (S : Tb) (c : Nat) : dir m S c (S.2.2.2 c) = S.2.1 := by
  unfold dir
  rw [if_pos rfl]
theorem dir_out {m n : Nat} {S : Tb} {c : Nat} (hc : c < n) (hL : Lb m n S) {j : Nat} (hj : j < n) (hn : j ≠ c) : dir m S c (S.2.2.2 j) = 0 := by
  unfold dir
  rw [if_neg (fun e => hn (hL.2.1 j c hj hc e)), dif_neg]
  rintro ⟨i, hi, e⟩
  exact hL.2.2 i j hi hj e
theorem dir_sys {m n : Nat} {S : Tb} {c : Nat} (hc : c < n) (hL : Lb m n S) : Sys m n S (dir m S c) := by
  intro i hi
  rw [dir_in hc hL hi, iS_one hc (fun j hj hn => by rw [dir_out hc hL hj hn, Int.mul_zero]), dir_c, Int.mul_neg, Int.mul_comm (S.1 i c)]
  omega
/-- THE CORE: t enters at S1 and leaves at S2, where both say the same, labels above t stand over columns in S2 if in S1, and what is nought in S1 is nought in S2: that can't be -/
theorem bland {R m n C gr : Nat} {st : Nat → Prop} {S1 S2 : Tb} {r1 c1 r2 c2 : Nat} (hRm : R ≤ m) (hgr : R ≤ gr) (hgm : gr < m)
    (L1 : Lb m n S1) (L2 : Lb m n S2) (hD1 : 0 < S1.2.1) (hD2 : 0 < S2.2.1) (f2 : ∀ i, i < R → 0 ≤ S2.1 i C)
    (R1 : Rul R m n C gr st S1 r1 c1) (R2 : Rul R m n C gr st S2 r2 c2) (ht : S1.2.2.2 c1 = S2.2.2.1 r2) (hs : S2.2.2.2 c2 ≤ S1.2.2.2 c1)
    (hsys : ∀ x, Sys m n S2 x → Sys m n S1 x) (hgl : ∀ i, R ≤ i → i < m → S1.2.2.1 i = S2.2.2.1 i)
    (hnon : ∀ j, j < n → (st (S1.2.2.2 j) ∨ S1.2.2.2 c1 < S1.2.2.2 j) → ∃ k, k < n ∧ S2.2.2.2 k = S1.2.2.2 j)
    (hval : ∀ q, Val0 R C S1 q → Val0 R C S2 q) : False := by
  obtain ⟨hr1, hc1, -, hp1, hg1, hst1, hleast1, -⟩ := R1
  obtain ⟨hr2, hc2, -, hp2, hg2, hst2, -, hrat2⟩ := R2
  have hd := hsys _ (dir_sys hc2 L2) gr hgm
  rw [hgl gr hgr hgm, dir_in hc2 L2 hgm] at hd
  have hpos : 0 < S1.2.1 * - S2.1 gr c2 := Int.mul_pos hD1 (by omega)
  obtain ⟨j, hj, hneg⟩ := iS_below (n := n) (f := fun j => S1.1 gr j * dir m S2 c2 (S1.2.2.2 j)) (by omega)
  by_cases h1 : st (S1.2.2.2 j) ∨ S1.2.2.2 c1 < S1.2.2.2 j
  · obtain ⟨k, hk, e⟩ := hnon j hj h1
    have hkc : k ≠ c2 := fun e2 => by
      rw [e2] at e
      rcases h1 with h1 | h1
      · exact hst2 (e ▸ h1)
      · omega
    simp only [← e, dir_out hc2 L2 hk hkc, Int.mul_zero] at hneg
    omega
  · have hns : ¬ st (S1.2.2.2 j) := fun h => h1 (Or.inl h)
    by_cases h2 : S1.2.2.2 j = S1.2.2.2 c1
    · have e := L1.2.1 j c1 hj hc1 h2
      subst e
      simp only [ht, dir_in hc2 L2 (show r2 < m by omega)] at hneg
      have := Int.mul_pos (show 0 < - S1.1 gr j by omega) (show 0 < S2.1 r2 c2 from hp2)
      rw [Int.neg_mul] at this
      rw [Int.mul_neg] at hneg
      omega
    · have hlt : S1.2.2.2 j < S1.2.2.2 c1 := by omega
      have hT : 0 ≤ S1.1 gr j := by
        refine Int.not_lt.mp fun h => ?_
        have := hleast1 j hj hns h
        omega
      have hdn : dir m S2 c2 (S1.2.2.2 j) < 0 := by
        refine Int.not_le.mp fun h => ?_
        have := Int.mul_nonneg hT h
        omega
      by_cases h3 : S1.2.2.2 j = S2.2.2.2 c2
      · rw [h3, dir_c] at hdn; omega
      · by_cases h4 : ∃ i, i < m ∧ S2.2.2.1 i = S1.2.2.2 j
        · obtain ⟨i, hi, e⟩ := h4
          rw [← e, dir_in hc2 L2 hi] at hdn
          by_cases h5 : i < R
          · rcases hrat2 i h5 (by omega) with h6 | ⟨-, h6⟩
            · have h7 : S2.1 i C = 0 := hval (S1.2.2.2 j) (fun k hk ek => absurd ek (L1.2.2 k j (by omega) hj)) i h5 e
              rw [h7, Int.zero_mul] at h6
              have := Int.mul_nonneg (f2 r2 hr2) (show 0 ≤ S2.1 i c2 by omega)
              omega
            · omega
          · have := hgl i (by omega) hi
            exact L1.2.2 i j hi hj (this.trans e)
        · have : dir m S2 c2 (S1.2.2.2 j) = 0 := by
            unfold dir
            rw [if_neg h3, dif_neg h4]
          omega
