/-! the reference's tours: links, costs of an order, the next order, the bits -/
def tuE (x : Int32) (L : Int) : Prop := (x.toInt = -1 ∧ L = 536870912) ∨ (0 ≤ x.toInt ∧ x.toInt ≤ 1000 ∧ x.toInt = L)
theorem tuE.no1 {ar : Int} {f t r c : Nat → Int32} {aI : Int32} {b k : Nat} {cq : Int32} (h : tuE cq (tuL (ar, f, t, r, c) aI.toInt.toNat b k)) (ha : 0 ≤ aI.toInt) (hf : 0 ≤ (f k).toInt) (hne : (f k).toInt ≠ aI.toInt) : tuE cq (tuL (ar, f, t, r, c) aI.toInt.toNat b (k + 1)) := by
  rw [tuL_no (fun h9 => by have h8 : (f k).toInt.toNat = aI.toInt.toNat := h9.1; omega)]
  exact h
theorem tuE.no2 {ar : Int} {f t r c : Nat → Int32} {bJ : Int32} {a k : Nat} {cq : Int32} (h : tuE cq (tuL (ar, f, t, r, c) a bJ.toInt.toNat k)) (ha : 0 ≤ bJ.toInt) (hf : 0 ≤ (t k).toInt) (hne : (t k).toInt ≠ bJ.toInt) : tuE cq (tuL (ar, f, t, r, c) a bJ.toInt.toNat (k + 1)) := by
  rw [tuL_no (fun h9 => by have h8 : (t k).toInt.toNat = bJ.toInt.toNat := h9.2; omega)]
  exact h
theorem tuE.take {ar : Int} {f t r c : Nat → Int32} {aI bJ : Int32} {k : Nat} {cq : Int32} (h : tuE cq (tuL (ar, f, t, r, c) aI.toInt.toNat bJ.toInt.toNat k)) (hf : (f k).toInt = aI.toInt) (ht : (t k).toInt = bJ.toInt) (hc : 0 ≤ (c k).toInt ∧ (c k).toInt ≤ 1000) (hx : cq.toInt = -1 ∨ ¬ (c k).toInt ≥ cq.toInt) : tuE (c k) (tuL (ar, f, t, r, c) aI.toInt.toNat bJ.toInt.toNat (k + 1)) := by
  have e1 : tFr (ar, f, t, r, c) k = aI.toInt.toNat := by show (f k).toInt.toNat = _; rw [hf]
  have e2 : tTo (ar, f, t, r, c) k = bJ.toInt.toNat := by show (t k).toInt.toNat = _; rw [ht]
  have e3 : tCo (ar, f, t, r, c) k = (c k).toInt := rfl
  unfold tuE at h
  rw [tuL_yes e1 e2, e3, if_pos (by omega)]
  exact Or.inr ⟨hc.1, hc.2, rfl⟩
theorem tuE.keep {ar : Int} {f t r c : Nat → Int32} {aI bJ : Int32} {k : Nat} {cq : Int32} (h : tuE cq (tuL (ar, f, t, r, c) aI.toInt.toNat bJ.toInt.toNat k)) (hf : (f k).toInt = aI.toInt) (ht : (t k).toInt = bJ.toInt) (hx : ¬ cq.toInt = -1) (hy : (c k).toInt ≥ cq.toInt) : tuE cq (tuL (ar, f, t, r, c) aI.toInt.toNat bJ.toInt.toNat (k + 1)) := by
  have e1 : tFr (ar, f, t, r, c) k = aI.toInt.toNat := by show (f k).toInt.toNat = _; rw [hf]
  have e2 : tTo (ar, f, t, r, c) k = bJ.toInt.toNat := by show (t k).toInt.toNat = _; rw [ht]
  have e3 : tCo (ar, f, t, r, c) k = (c k).toInt := rfl
  have h2 := h
  unfold tuE at h2
  rw [tuL_yes e1 e2, e3, if_neg (by omega)]
  exact h
def tuOf (f : Nat → Int32) (i : Nat) : Nat := (f i).toInt.toNat
theorem tuOf_v {n : Nat} {f : Nat → Int32} (hB : Bo f) (hn : n ≤ 8) (hI : Io n f) (hr : ∀ i, i < n → (f i).toInt < (n : Int)) (h0 : (f 0).toInt = 0) : tuV n (tuOf f) := by
  refine ⟨?_, fun i hi => ?_, fun i j hi hj e => hI i j hi hj ?_⟩
  · show (f 0).toInt.toNat = 0
    rw [h0]
    rfl
  · have h1 := hr i hi
    have h2 := hB i (by omega)
    show (f i).toInt.toNat < n
    omega
  · have h1 := hB i (by omega)
    have h2 := hB j (by omega)
    have e2 : (f i).toInt.toNat = (f j).toInt.toNat := e
    exact Int32.toInt_inj.mp (by omega)
/-! the next order -/
theorem tuDs {f : Nat → Int32} {n k : Nat} (hB : Bo f) (hn : n ≤ 8) (h : ∀ t, k < t → t + 1 < n → tuOf f (t + 1) < tuOf f t) (hk : 0 < k) (hlt : ¬ (f k).toInt ≤ (f (k + 1)).toInt) : ∀ t, k - 1 < t → t + 1 < n → tuOf f (t + 1) < tuOf f t := by
  intro t h1 h2
  rcases Nat.lt_or_ge k t with h3 | h3
  · exact h t h3 h2
  · have e : t = k := by omega
    subst e
    have h4 := hB (t + 1) (by omega)
    show (f (t + 1)).toInt.toNat < (f t).toInt.toNat
    omega
def tuSw (f : Nat → Int32) (k j i : Nat) : Int32 := if i = j then f k else if i = k then f j else f i
def tuRv (n k a b : Nat) (s g : Nat → Int32) : Prop := a + b = k + n ∧ (∀ t, a ≤ t → t ≤ b → g t = s t) ∧ (∀ t, k < t → t < n → (t < a ∨ b < t) → g t = s (k + n - t)) ∧ ∀ t, t ≤ k → g t = s t
theorem tuRv.start {n k j : Nat} {f : Nat → Int32} (hk : k < j) (hj : j < n) (hn : n ≤ 8) : tuRv n k (k + 1) (n - 1) (tuSw f k j) (upd (upd f (nI k).toNatClampNeg (f j)) (nI j).toNatClampNeg (f k)) := by
  have e : ∀ t, upd (upd f (nI k).toNatClampNeg (f j)) (nI j).toNatClampNeg (f k) t = tuSw f k j t := fun t => sw_at (by omega) (by omega) t
  exact ⟨by omega, fun t _ _ => e t, fun t h1 h2 h3 => by omega, fun t _ => e t⟩
theorem tuRv.step {n k a b : Nat} {s g : Nat → Int32} (h : tuRv n k a b s g) (hka : k < a) (hab : ¬ ((a : Nat) : Int) ≥ ((b : Nat) : Int)) (hb : b < n) (hn : n ≤ 8) : tuRv n k (a + 1) (b - 1) s (upd (upd g (nI a).toNatClampNeg (g b)) (nI b).toNatClampNeg (g a)) := by
  obtain ⟨h1, h2, h3, h4⟩ := h
  have e : ∀ t, upd (upd g (nI a).toNatClampNeg (g b)) (nI b).toNatClampNeg (g a) t = if t = b then g a else if t = a then g b else g t := fun t => sw_at (by omega) (by omega) t
  refine ⟨by omega, fun t h5 h6 => ?_, fun t h5 h6 h7 => ?_, fun t h5 => ?_⟩
  · rw [e, if_neg (by omega), if_neg (by omega)]
    exact h2 t (by omega) (by omega)
  · rw [e]
    by_cases e1 : t = b
    · rw [if_pos e1, h2 a (Nat.le_refl _) (by omega), show k + n - t = a by omega]
    · rw [if_neg e1]
      by_cases e2 : t = a
      · rw [if_pos e2, h2 b (by omega) (Nat.le_refl _), show k + n - t = b by omega]
      · rw [if_neg e2]
        exact h3 t h5 h6 (by omega)
  · rw [e, if_neg (by omega), if_neg (by omega)]
    exact h4 t h5
theorem tuRv.done {n k a b : Nat} {s g : Nat → Int32} (h : tuRv n k a b s g) (hab : ((a : Nat) : Int) ≥ ((b : Nat) : Int)) {t : Nat} (h5 : k < t) (h6 : t < n) : g t = s (k + n - t) := by
  obtain ⟨h1, h2, h3, h4⟩ := h
  by_cases h7 : t < a ∨ b < t
  · exact h3 t h5 h6 h7
  · rw [h2 t (by omega) (by omega), show k + n - t = t by omega]
def tuZ (n k : Nat) (o g : Nat → Nat) : Prop := k < n ∧ (∀ j, j < k → g j = o j) ∧ o k < g k ∧ (∀ t, k < t → t < n → o k < o t → g k ≤ o t) ∧ (∀ t, k < t → t + 1 < n → o (t + 1) < o t) ∧ ∀ t, k < t → t + 1 < n → g t < g (t + 1)
theorem tuZ.of {n k j a b : Nat} {f g : Nat → Int32} (hB : Bo f) (hI : Io n f) (hn : n ≤ 8) (hk : k + 1 ≤ j ∧ j < n) (hds : ∀ t, k < t → t + 1 < n → tuOf f (t + 1) < tuOf f t) (hjs : ∀ t, j < t → t < n → (f t).toInt < (f k).toInt) (hj : (f j).toInt ≥ (f k).toInt) (hrv : tuRv n k a b (tuSw f k j) g) (hab : ((a : Nat) : Int) ≥ ((b : Nat) : Int)) : tuZ n k (tuOf f) (tuOf g) := by
  have hne : (f j).toInt ≠ (f k).toInt := fun e => by
    have h9 := hI j k (by omega) (by omega) (Int32.toInt_inj.mp e)
    omega
  have hk0 := hB k (by omega)
  have hgk : g k = f j := by
    rw [hrv.2.2.2 k (Nat.le_refl _)]
    show (if k = j then f k else if k = k then f j else f k) = f j
    rw [if_neg (by omega), if_pos rfl]
  refine ⟨by omega, fun t ht => ?_, ?_, fun t h1 h2 h3 => ?_, hds, fun t h1 h2 => ?_⟩
  · show (g t).toInt.toNat = (f t).toInt.toNat
    rw [hrv.2.2.2 t (by omega)]
    show (if t = j then f k else if t = k then f j else f t).toInt.toNat = _
    rw [if_neg (by omega), if_neg (by omega)]
  · show (f k).toInt.toNat < (g k).toInt.toNat
    rw [hgk]
    omega
  · show (g k).toInt.toNat ≤ (f t).toInt.toNat
    rw [hgk]
    rcases Nat.lt_or_ge j t with h4 | h4
    · have h5 := hjs t h4 h2
      have h6 : (f k).toInt.toNat < (f t).toInt.toNat := h3
      omega
    · exact tuDesc hds h1 h4 (by omega)
  · show (g t).toInt.toNat < (g (t + 1)).toInt.toNat
    rw [hrv.done hab h1 (by omega), hrv.done hab (t := t + 1) (by omega) h2]
    obtain ⟨u, eu⟩ : ∃ u, k + n - (t + 1) = u := ⟨_, rfl⟩
    rw [eu, show k + n - t = u + 1 by omega]
    have hu := hB u (by omega)
    have hu1 := hB (u + 1) (by omega)
    have hd : (f (u + 1)).toInt.toNat < (f u).toInt.toNat := hds u (by omega) (by omega)
    show (if u + 1 = j then f k else if u + 1 = k then f j else f (u + 1)).toInt.toNat < (if u = j then f k else if u = k then f j else f u).toInt.toNat
    rw [if_neg (show ¬ u + 1 = k by omega), if_neg (show ¬ u = k by omega)]
    by_cases e1 : u + 1 = j
    · rw [if_pos e1, if_neg (by omega)]
      rw [e1] at hd
      omega
    · rw [if_neg e1]
      by_cases e2 : u = j
      · rw [if_pos e2]
        have h5 := hjs (u + 1) (by omega) (by omega)
        omega
      · rw [if_neg e2]
        exact hd
theorem sw_R {g : Nat → Int32} {a b K : Nat} (ha : a < K) (hb : b < K) (hK : K ≤ 8) (h : ∀ i, i < K → (g i).toInt < (K : Int)) : ∀ i, i < K → (upd (upd g (nI a).toNatClampNeg (g b)) (nI b).toNatClampNeg (g a) i).toInt < (K : Int) := fun i hi => by
  rw [sw_at (by omega) (by omega)]
  split
  · exact h a ha
  · split
    · exact h b hb
    · exact h i hi
/-! the bits of a set -/
theorem bI_nI {n i : Nat} (hi : i < 32) : bI (nI n) i = n.testBit i := by
  show (BitVec.ofNat 32 n).getLsbD i = _
  rw [BitVec.getLsbD_ofNat, decide_eq_true hi, Bool.true_and]
theorem cnt_B {n i : Nat} (hi : i ≤ 12) : cnt n i = cntB (bI (nI n)) i := by
  induction i with
  | zero => rfl
  | succ i ih =>
    rw [cnt_succ, ih (by omega)]
    cases e : bI (nI n) i
    · rw [cntB_s0 e]
      rw [bI_nI (by omega), Nat.testBit_eq_decide_div_mod_eq] at e
      have h1 := of_decide_eq_false e
      omega
    · rw [cntB_s e]
      rw [bI_nI (by omega), Nat.testBit_eq_decide_div_mod_eq] at e
      have h1 := of_decide_eq_true e
      omega
theorem bI_yes {n i : Nat} (hi : i < 12) (h : ((n / 2 ^ i % 2 : Nat) : Int) ≠ 0) : bI (nI n) i = true := by
  rw [bI_nI (by omega), Nat.testBit_eq_decide_div_mod_eq]
  exact decide_eq_true (by omega)
/-- one stop more -/
theorem tuMem {b : Nat → Bool} {i K : Nat} {g : Nat → Int32} (hi : i < 12) (hb : b i = true) (hK : K = cntB b i) (hK8 : K < 8) (h : ∀ j, j < K → g j = nI (tuK b j)) : ∀ j, j < K + 1 → upd g (nI K).toNatClampNeg (nI i) j = nI (tuK b j) := fun j hj => by
  rw [upd_at (by omega)]
  by_cases e : j = K
  · rw [if_pos e, e, hK, tuK_at hi hb]
  · rw [if_neg e]
    exact h j (by omega)
theorem tuE.at {r : Int32} {x y k : Nat} {d : NtD} (h : tuE r (tuL d (nI x).toInt.toNat (nI y).toInt.toNat k)) (hx : x < 12) (hy : y < 12) : tuE r (tuL d x y k) := by
  rw [nI_toInt (by omega), nI_toInt (by omega)] at h
  exact h
def tuSu (P : Nat → Nat → Int) (n : Nat) (o : Nat → Nat) (k : Nat) (su : Int32) : Prop := su.toInt = tuC P n o k ∧ 0 ≤ tuC P n o k ∧ tuC P n o k ≤ 1000 * (k : Int)
theorem tuSu.step {P : Nat → Nat → Int} {n k : Nat} {o : Nat → Nat} {su r : Int32} (h : tuSu P n o k su) (hk : k < 8) (hr : tuE r (P (o k) (o ((k + 1) % n)))) (hne : r.toInt ≠ -1) : tuSu P n o (k + 1) (su + r) := by
  obtain ⟨h1, h2, h3⟩ := h
  have e : tuC P n o (k + 1) = tuC P n o k + P (o k) (o ((k + 1) % n)) := rfl
  unfold tuE at hr
  have h4 : (su + r).toInt = su.toInt + r.toInt := addB (by omega) (by omega)
  refine ⟨?_, ?_, ?_⟩
  · rw [h4, e]
    omega
  · rw [e]
    omega
  · rw [e]
    omega
theorem tuSu.far {P : Nat → Nat → Int} {n k : Nat} {o : Nat → Nat} {su r : Int32} (hP : tuP P) (h : tuSu P n o k su) (hr : tuE r (P (o k) (o ((k + 1) % n)))) (he : r.toInt = -1) (hk : k < n) : ¬ tuC P n o n < 536870912 := by
  obtain ⟨h1, h2, h3⟩ := h
  have e : tuC P n o (k + 1) = tuC P n o k + P (o k) (o ((k + 1) % n)) := rfl
  have h4 := tuC_up (P := P) (n := n) (o := o) hP (k := k + 1) (j := n) (by omega)
  unfold tuE at hr
  omega
