theorem neg32 {x : Int32} {b : Nat} (h : x.toInt.natAbs ≤ b) (hb : b ≤ 2000000000) : (-x).toInt.natAbs ≤ b ∧ (-x).toInt = -x.toInt := by
  have e : (-x).toInt = -x.toInt := by
    rw [Int32.toInt_neg]; exact Int.bmod_eq_of_le (by omega) (by omega)
  rw [e]; exact ⟨by omega, rfl⟩
abbrev EqP (f61 f71 f72 : Nat → Int32) (i : Nat) : Prop := f71 i = 0 ∧ f61 (3 * cD f72 i) = 2
/-- how many columns a need has -/
def ncw (f61 f71 f72 f73 : Nat → Int32) (i : Nat) : Nat := if f73 i = 0 then 0 else if EqP f61 f71 f72 i then 2 else 1
def ncS (w : Nat → Nat) : Nat → Nat
  | 0 => 0
  | n + 1 => ncS w n + w n
theorem ncS_mono {w : Nat → Nat} {a b : Nat} (h : a ≤ b) : ncS w a ≤ ncS w b := by
  induction b with
  | zero => have : a = 0 := by omega
            subst this; exact Nat.le_refl _
  | succ b ih =>
    by_cases e : a = b + 1
    · subst e; exact Nat.le_refl _
    · exact Nat.le_trans (ih (by omega)) (Nat.le_add_right _ _)
theorem ncS_in {w : Nat → Nat} {i n : Nat} (h : i < n) : ncS w i + w i ≤ ncS w n := ncS_mono (w := w) (show i + 1 ≤ n from h)
theorem ncS_le {w : Nat → Nat} {a b k : Nat} (h : a ≤ b) (hw : ∀ i, a ≤ i → i < b → w i ≤ k) : ncS w b ≤ ncS w a + (b - a) * k := by
  induction b with
  | zero => have : a = 0 := by omega
            subst this; omega
  | succ b ih =>
    by_cases e : a = b + 1
    · subst e; omega
    · have h1 := ih (by omega) (fun i h1 h2 => hw i h1 (by omega))
      have h2 := hw b (by omega) (by omega)
      show ncS w b + w b ≤ _
      rw [show b + 1 - a = b - a + 1 by omega, Nat.succ_mul]; omega
/-- the needs, as they are listed: rows first, then variables -/
def NdO (f71 f72 : Nat → Int32) (vn mr z nd : Nat) : Prop := z ≤ mr ∧ z ≤ nd ∧ nd ≤ z + 2 * vn ∧ (∀ i, i < z → f71 i = 0 ∧ ∃ o, o < mr ∧ f72 i = nI o) ∧ ∀ i, z ≤ i → i < nd → (f71 i = 1 ∨ f71 i = 2) ∧ ∃ o, o < vn ∧ f72 i = nI o
theorem NdO.row {f71 f72 : Nat → Int32} {vn mr z nd i : Nat} (h : NdO f71 f72 vn mr z nd) (hi : i < nd) (h0 : f71 i = 0) : i < z ∧ ∃ o, o < mr ∧ f72 i = nI o := by
  by_cases e : i < z
  · exact ⟨e, (h.2.2.2.1 i e).2⟩
  · exfalso
    rcases (h.2.2.2.2 i (by omega) hi).1 with h1 | h1 <;> rw [h0] at h1 <;> exact absurd h1 (by decide)
theorem NdO.var {f71 f72 : Nat → Int32} {vn mr z nd i : Nat} (h : NdO f71 f72 vn mr z nd) (hi : i < nd) (h0 : ¬ f71 i = 0) : z ≤ i ∧ ∃ o, o < vn ∧ f72 i = nI o := by
  by_cases e : i < z
  · exact absurd (h.2.2.2.1 i e).1 h0
  · exact ⟨by omega, (h.2.2.2.2 i (by omega) hi).2⟩
theorem NdO.any {f71 f72 : Nat → Int32} {vn mr z nd i : Nat} (h : NdO f71 f72 vn mr z nd) (hi : i < nd) : ∃ o, f72 i = nI o ∧ ((f71 i = 0 ∧ o < mr) ∨ (¬ f71 i = 0 ∧ o < vn)) := by
  by_cases e : f71 i = 0
  · obtain ⟨_, o, h1, h2⟩ := h.row hi e
    exact ⟨o, h2, Or.inl ⟨e, h1⟩⟩
  · obtain ⟨_, o, h1, h2⟩ := h.var hi e
    exact ⟨o, h2, Or.inr ⟨e, h1⟩⟩
theorem ncw_le (f61 f71 f72 f73 : Nat → Int32) (i : Nat) : ncw f61 f71 f72 f73 i ≤ 2 := by unfold ncw; split <;> (try split) <;> omega
theorem NdO.w1 {f61 f71 f72 f73 : Nat → Int32} {vn mr z nd i : Nat} (h : NdO f71 f72 vn mr z nd) (hz : z ≤ i) (hi : i < nd) : ncw f61 f71 f72 f73 i ≤ 1 := by
  unfold ncw
  split
  · omega
  · rw [if_neg (fun e => by have h1 := (h.row hi e.1).1; omega)]; omega
theorem NdO.cz {f71 f72 : Nat → Int32} {vn mr z nd : Nat} (h : NdO f71 f72 vn mr z nd) (f61 f73 : Nat → Int32) : ncS (ncw f61 f71 f72 f73) z ≤ 2 * z ∧ ncS (ncw f61 f71 f72 f73) nd ≤ ncS (ncw f61 f71 f72 f73) z + (nd - z) := by
  have h1 := ncS_le (w := ncw f61 f71 f72 f73) (a := 0) (b := z) (k := 2) (by omega) (fun i _ _ => ncw_le f61 f71 f72 f73 i)
  have h2 := ncS_le (w := ncw f61 f71 f72 f73) (a := z) (b := nd) (k := 1) h.2.1 (fun i h3 h4 => h.w1 h3 h4)
  have h3 : ncS (ncw f61 f71 f72 f73) 0 = 0 := rfl
  omega
/-- how great a number can be in a column -/
def bcl (cz j : Nat) : Nat := if j < cz then 99 else 1
theorem sumN_bcl {cz n : Nat} : sumN n (bcl cz) ≤ 99 * cz + (n - cz) := by
  induction n with
  | zero => exact Nat.zero_le _
  | succ n ih =>
    simp only [sumN]
    by_cases e : n < cz
    · have h2 : ∀ k, k ≤ cz → sumN k (bcl cz) ≤ 99 * k := by
        intro k
        induction k with
        | zero => intro _; exact Nat.zero_le _
        | succ k ih2 => intro hk; simp only [sumN]; have h3 := ih2 (by omega); have h4 : bcl cz k = 99 := by unfold bcl; rw [if_pos (by omega)]
                        rw [h4]; omega
      have h3 := h2 n (by omega)
      have h4 : bcl cz n = 99 := by unfold bcl; rw [if_pos e]
      rw [h4]; omega
    · have h4 : bcl cz n = 1 := by unfold bcl; rw [if_neg e]
      rw [h4]; omega
theorem sumN_mono {n : Nat} {f g : Nat → Nat} (h : ∀ q, q < n → f q ≤ g q) : sumN n f ≤ sumN n g := by
  induction n with
  | zero => exact Nat.le_refl _
  | succ n ih => simp only [sumN]; exact Nat.add_le_add (ih (fun q hq => h q (by omega))) (h n (by omega))
/-- the numbers of a line, but the last two -/
def RwB (C : Nat) (m : Nat → Int) (r : Nat) (bb : Nat → Nat) : Prop := ∀ j, j < C - 1 → (m (30 + r * (C + 1) + j)).natAbs ≤ bb j
/-- lines as they are laid -/
def BldP (C R : Nat) (m : Nat → Int) (f5 : Nat → Int32) (bb : Nat → Nat) (Bs : Nat) : Prop := ∀ i, i < R → f5 i = nI (C + i) ∧ RwB C m i bb ∧ m (30 + i * (C + 1) + (C - 1)) = -1 ∧ (m (30 + i * (C + 1) + C)).natAbs ≤ Bs
theorem BldP.more {C R : Nat} {m m2 : Nat → Int} {f5 f52 : Nat → Int32} {bb : Nat → Nat} {Bs : Nat} (h : BldP C R m f5 bb Bs) (hf : ∀ i, i < R → f52 i = f5 i) (e : ∀ p, 30 ≤ p → p < 30 + R * (C + 1) → m2 p = m p) (hC : 0 < C) (h1 : f52 R = nI (C + R)) (h2 : RwB C m2 R bb) (h3 : m2 (30 + R * (C + 1) + (C - 1)) = -1) (h4 : (m2 (30 + R * (C + 1) + C)).natAbs ≤ Bs) : BldP C (R + 1) m2 f52 bb Bs := by
  intro i hi
  by_cases ei : i = R
  · subst ei; exact ⟨h1, h2, h3, h4⟩
  · have hiR : i < R := by omega
    obtain ⟨k1, k2, k3, k4⟩ := h i hiR
    have hp : ∀ j, j ≤ C → m2 (30 + i * (C + 1) + j) = m (30 + i * (C + 1) + j) := fun j hj => e _ (by omega) (by have := pl_lt hiR hj; omega)
    exact ⟨by rw [hf i hiR]; exact k1, fun j hj => by rw [hp j (by omega)]; exact k2 j hj, by rw [hp _ (by omega)]; exact k3, by rw [hp _ (Nat.le_refl _)]; exact k4⟩
theorem BldP.frame {C R : Nat} {m m2 : Nat → Int} {f5 : Nat → Int32} {bb : Nat → Nat} {Bs : Nat} (h : BldP C R m f5 bb Bs) (e : ∀ p, 30 ≤ p → p < 30 + R * (C + 1) → m2 p = m p) : BldP C R m2 f5 bb Bs := by
  intro i hi
  obtain ⟨k1, k2, k3, k4⟩ := h i hi
  have hp : ∀ j, j ≤ C → m2 (30 + i * (C + 1) + j) = m (30 + i * (C + 1) + j) := fun j hj => e _ (by omega) (by have := pl_lt hi hj; omega)
  exact ⟨k1, fun j hj => by rw [hp j (by omega)]; exact k2 j hj, by rw [hp _ (by omega)]; exact k3, by rw [hp _ (Nat.le_refl _)]; exact k4⟩
theorem prov_num : (bF 2393 (2 ^ 74) 1 16 < 2 ^ 258 ∧ bF 2393 (2 ^ 74) 1 16 * 2 ^ 23 < 2 ^ 294) ∧ bF 2393 1 1 18 < 2 ^ 258 ∧ bF 2393 1 1 18 * 2 ^ 23 < 2 ^ 294 := by decide +kernel
/-- the tableaux of a proof are small -/
theorem prov_small {C R cz Bs : Nat} {m : Nat → Int} {f5 : Nat → Int32} (hC : 0 < C) (hC41 : C ≤ 41) (hcz : cz ≤ 24) (hcn : C ≤ cz + 17) (hB : BldP C R m f5 (bcl cz) Bs) (hR : (R ≤ 16 ∧ Bs = 2 ^ 74) ∨ (R ≤ 18 ∧ Bs = 1)) (h1 : ∀ j, j ≤ C → m (30 + R * (C + 1) + j) = if j = C - 1 then 1 else 0) (h2 : ∀ j, j ≤ C → (m (30 + (R + 1) * (C + 1) + j)).natAbs ≤ 99999) :
    ∀ t D rl cl, SxF C R (R + 2) (fun i j => m (30 + i * (C + 1) + j)) t D rl cl → (D.natAbs < 2 ^ 258 ∧ ∀ i, i < R → ∀ j, j ≤ C → (t i j).natAbs < 2 ^ 258) ∧ ∀ i, i < R + 2 → ∀ j, j ≤ C → (t i j).natAbs < 2 ^ 294 := by
  intro t D rl cl h
  have hrow : ∀ i, i < R → sumN C (fun q => (m (30 + i * (C + 1) + q)).natAbs) ≤ 2393 := fun i hi => by
    obtain ⟨k1, k2, k3, k4⟩ := hB i hi
    have e : sumN C (fun q => (m (30 + i * (C + 1) + q)).natAbs) = sumN (C - 1) (fun q => (m (30 + i * (C + 1) + q)).natAbs) + (m (30 + i * (C + 1) + (C - 1))).natAbs := by
      obtain ⟨c, rfl⟩ : ∃ c, C = c + 1 := ⟨C - 1, by omega⟩
      rfl
    have h3 := sumN_mono (n := C - 1) (f := fun q => (m (30 + i * (C + 1) + q)).natAbs) (g := bcl cz) (fun q hq => k2 q hq)
    have h4 := sumN_bcl (cz := cz) (n := C - 1)
    rw [e, k3]; have h5 : (-1 : Int).natAbs = 1 := rfl
    omega
  have hall : ∀ i, R ≤ i → i < R + 2 → sumN (C + 1) (fun q => (m (30 + i * (C + 1) + q)).natAbs) ≤ 2 ^ 23 := fun i hi hT => by
    have h3 : sumN (C + 1) (fun q => (m (30 + i * (C + 1) + q)).natAbs) ≤ (C + 1) * 99999 := sumN_le (fun q hq => by
      by_cases e : i = R
      · subst e; rw [h1 q (by omega)]; split <;> decide
      · have : i = R + 1 := by omega
        subst this; exact h2 q (by omega))
    have h4 : (C + 1) * 99999 ≤ 42 * 99999 := Nat.mul_le_mul_right _ (by omega)
    exact Nat.le_trans (Nat.le_trans h3 h4) (by decide)
  have hn := prov_num
  have key : ∀ k Bq, (R ≤ k) → (∀ i, i < R → (m (30 + i * (C + 1) + C)).natAbs ≤ Bq) → bF 2393 Bq 1 k < 2 ^ 258 → bF 2393 Bq 1 k * 2 ^ 23 < 2 ^ 294 → (D.natAbs < 2 ^ 258 ∧ ∀ i, i < R → ∀ j, j ≤ C → (t i j).natAbs < 2 ^ 258) ∧ ∀ i, i < R + 2 → ∀ j, j ≤ C → (t i j).natAbs < 2 ^ 294 := by
    intro k Bq hk hq hn1 hn2
    have hb := h.bd (W := 2393) (Bc := Bq) (GM := 2 ^ 23) (k := k) (by decide) (by decide) (Or.inl hk) hrow hq hall (by omega)
    refine ⟨⟨Nat.lt_of_le_of_lt hb.1 hn1, fun i hi j hj => ?_⟩, fun i hi j hj => ?_⟩
    · have h3 := hb.2 i (by omega) j hj
      rw [if_pos hi, Nat.mul_one] at h3
      exact Nat.lt_of_le_of_lt h3 hn1
    · have h3 := hb.2 i hi j hj
      refine Nat.lt_of_le_of_lt h3 (Nat.lt_of_le_of_lt (Nat.mul_le_mul_left _ ?_) hn2)
      split
      · exact Nat.one_le_two_pow
      · exact Nat.le_refl _
  rcases hR with ⟨hR1, hR2⟩ | ⟨hR1, hR2⟩
  · exact key 16 (2 ^ 74) hR1 (fun i hi => Nat.le_trans (hB i hi).2.2.2 (Nat.le_of_eq hR2)) hn.1.1 hn.1.2
  · exact key 18 1 hR1 (fun i hi => Nat.le_trans (hB i hi).2.2.2 (Nat.le_of_eq hR2)) hn.2.1 hn.2.2
/-- a need's numbers are not above what its columns may hold -/
theorem NdO.cap {f61 f71 f72 f73 : Nat → Int32} {vn mr z nd i x : Nat} (h : NdO f71 f72 vn mr z nd) (hi : i < nd) (hx : (f71 i = 0 ∧ x ≤ 99) ∨ (¬ f71 i = 0 ∧ x ≤ 1)) : ∀ j, ncS (ncw f61 f71 f72 f73) i ≤ j → j < ncS (ncw f61 f71 f72 f73) i + ncw f61 f71 f72 f73 i → x ≤ bcl (ncS (ncw f61 f71 f72 f73) z) j := by
  intro j h1 h2
  unfold bcl
  rcases hx with ⟨h3, h4⟩ | ⟨h3, h4⟩
  · have h5 := (h.row hi h3).1
    have h6 := ncS_in (w := ncw f61 f71 f72 f73) h5
    rw [if_pos (by omega)]; exact h4
  · have h5 := (h.var hi h3).1
    have h6 := ncS_mono (w := ncw f61 f71 f72 f73) h5
    rw [if_neg (by omega)]; exact h4
theorem bcl_one (cz j : Nat) : 1 ≤ bcl cz j := by unfold bcl; split <;> decide
theorem sub224 {x y : Int} (hx : Sz 223 x) (hy : Sz 201 y) : Sz 224 (x + -1 * y) := by
  unfold Sz at *
  have h1 : (x + -1 * y).natAbs ≤ x.natAbs + y.natAbs := by omega
  have h2 : (2 : Nat) ^ 223 + 2 ^ 201 ≤ 2 ^ 224 := by decide +kernel
  omega
theorem sub259 {x y : Int} (hx : Sz 258 x) (hy : Sz 258 y) : Sz 259 (x + -1 * y) := by
  unfold Sz at *
  have h1 : (x + -1 * y).natAbs ≤ x.natAbs + y.natAbs := by omega
  have h2 : (2 : Nat) ^ 258 + 2 ^ 258 ≤ 2 ^ 259 := by decide +kernel
  omega
