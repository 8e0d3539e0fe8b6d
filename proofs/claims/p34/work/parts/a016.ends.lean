/-! every run ends: exchanges that leave the goal, and such that raise it -/
/-- a run of K exchanges, in whatever way; labels below t; divisor and the goal's number within Bd -/
def Rna (R m n C gr : Nat) (st : Nat → Prop) (s : Nat → Tb) (K t : Nat) (Bd : Nat) : Prop :=
  R ≤ m ∧ C < n ∧ R ≤ gr ∧ gr < m ∧ (∀ i, i ≤ K → Gd R m n C (s i)) ∧ (∀ i, i ≤ K → ∀ q, st q → nb n (s i) q) ∧ (∀ i, i < K → ∃ e l, Exc R m n C gr st (s i) (s (i + 1)) e l false ∧ e < t ∧ l < t) ∧ ∀ i, i ≤ K → (s i).2.1 ≤ (Bd : Int) ∧ (s i).1 gr C ≤ (Bd : Int) ∧ - (Bd : Int) ≤ (s i).1 gr C
def fac : Nat → Nat
  | 0 => 1
  | n + 1 => (n + 1) * fac n
theorem fac_dvd {d n : Nat} (h1 : 0 < d) (h2 : d ≤ n) : ∃ k, fac n = d * k := by
  induction n with
  | zero => omega
  | succ n ih =>
    by_cases e : d = n + 1
    · exact ⟨fac n, by rw [e]; rfl⟩
    · obtain ⟨k, hk⟩ := ih (by omega)
      exact ⟨(n + 1) * k, by show (n + 1) * fac n = _; rw [hk, Nat.mul_left_comm]⟩
theorem fac_pos (n : Nat) : 0 < fac n := by
  induction n with
  | zero => decide
  | succ n ih => exact Nat.mul_pos (by omega) ih
/-- the goal's value over one divisor for all -/
def Zv (C gr : Nat) (Bd : Nat) (S : Tb) : Int := S.1 gr C * ((fac Bd : Int) / S.2.1)
theorem Zv_mul {C gr Bd : Nat} {S : Tb} (hD : 0 < S.2.1) (hB : S.2.1 ≤ (Bd : Int)) : Zv C gr Bd S * S.2.1 = S.1 gr C * (fac Bd : Int) := by
  obtain ⟨d, hd⟩ : ∃ d : Nat, S.2.1 = (d : Int) := ⟨S.2.1.toNat, by omega⟩
  obtain ⟨k, hk⟩ := fac_dvd (d := d) (n := Bd) (by omega) (by omega)
  unfold Zv
  rw [hd, hk, Int.natCast_mul, Int.mul_ediv_cancel_left _ (by omega), Int.mul_assoc, Int.mul_comm (k : Int)]
theorem Zv_le {C gr Bd : Nat} {S : Tb} (hD : 0 < S.2.1) (hB : S.2.1 ≤ (Bd : Int)) (h1 : S.1 gr C ≤ (Bd : Int)) : Zv C gr Bd S ≤ (Bd : Int) * (fac Bd : Int) := by
  have h := Zv_mul (C := C) (gr := gr) hD hB
  have h2 : S.1 gr C * (fac Bd : Int) ≤ (Bd : Int) * (fac Bd : Int) := Int.mul_le_mul_of_nonneg_right h1 (by omega)
  refine Int.not_lt.mp fun h3 => ?_
  have hpos : 0 ≤ (Bd : Int) * (fac Bd : Int) := Int.mul_nonneg (by omega) (by omega)
  have h4 := Int.mul_lt_mul_of_pos_right h3 hD
  have h5 : (Bd : Int) * (fac Bd : Int) * 1 ≤ (Bd : Int) * (fac Bd : Int) * S.2.1 := Int.mul_le_mul_of_nonneg_left (by omega) hpos
  omega
/-- how the goal's number goes on -/
theorem Exc.up {R m n C gr : Nat} {st : Nat → Prop} {S S' : Tb} {e l : Nat} {b : Bool} (hRm : R ≤ m) (hC : C < n) (hgr : R ≤ gr) (hgm : gr < m) (h : Exc R m n C gr st S S' e l b) (hG : Gd R m n C S) :
    (S'.1 gr C * S.2.1 = S.1 gr C * S'.2.1 ∧ Exc R m n C gr st S S' e l true) ∨ S.1 gr C * S'.2.1 < S'.1 gr C * S.2.1 := by
  obtain ⟨r, c, g, hp, hr, hb, he, hl⟩ := h
  have hp' := hp
  have hr' := hr
  obtain ⟨hrm, hcn, hgg, hD, hD', e1, -, -, -, e5, -⟩ := hp
  obtain ⟨hr, hc, hcC, hpos, hneg, -, -, -⟩ := hr
  have hg : g = 1 := by
    have h2 : 0 < g := by
      refine Int.not_le.mp fun h => ?_
      have := Int.mul_nonneg (show 0 ≤ -g by omega) (show 0 ≤ S.1 r c by omega)
      rw [Int.neg_mul] at this
      omega
    have h3 : g ≤ 1 := by
      refine Int.not_lt.mp fun h => ?_
      have := Int.mul_lt_mul_of_pos_left h h2
      omega
    omega
  subst hg
  have h5 := e5 gr hgm (by omega) C hC (fun e => hcC e.symm)
  rw [Int.one_mul] at h5 e1
  rw [e1, Int.mul_comm (S'.1 gr C), h5]
  have hf := hG.2.2 r hr
  by_cases h0 : S.1 r C = 0
  · left
    refine ⟨by rw [h0, Int.mul_zero]; omega, r, c, 1, hp', hr', fun _ => h0, he, hl⟩
  · right
    have := Int.mul_pos (show 0 < - S.1 gr c by omega) (show 0 < S.1 r C by omega)
    rw [Int.neg_mul] at this
    omega
theorem Zv_up {C gr Bd : Nat} {S S' : Tb} (hD : 0 < S.2.1) (hB : S.2.1 ≤ (Bd : Int)) (hD' : 0 < S'.2.1) (hB' : S'.2.1 ≤ (Bd : Int)) (h : S.1 gr C * S'.2.1 < S'.1 gr C * S.2.1) : Zv C gr Bd S < Zv C gr Bd S' := by
  have a1 := Zv_mul (C := C) (gr := gr) hD hB
  have a2 := Zv_mul (C := C) (gr := gr) hD' hB'
  refine Int.not_le.mp fun h3 => ?_
  have h4 : Zv C gr Bd S' * (S.2.1 * S'.2.1) ≤ Zv C gr Bd S * (S.2.1 * S'.2.1) := Int.mul_le_mul_of_nonneg_right h3 (Int.le_of_lt (Int.mul_pos hD hD'))
  have e1 : Zv C gr Bd S * (S.2.1 * S'.2.1) = (S.1 gr C * S'.2.1) * (fac Bd : Int) := by rw [← Int.mul_assoc, a1, Int.mul_assoc, Int.mul_comm (fac Bd : Int), ← Int.mul_assoc]
  have e2 : Zv C gr Bd S' * (S.2.1 * S'.2.1) = (S'.1 gr C * S.2.1) * (fac Bd : Int) := by rw [Int.mul_comm S.2.1, ← Int.mul_assoc, a2, Int.mul_assoc, Int.mul_comm (fac Bd : Int), ← Int.mul_assoc]
  rw [e1, e2] at h4
  have := Int.mul_lt_mul_of_pos_right h (show 0 < (fac Bd : Int) by have := fac_pos Bd; omega)
  omega
theorem Zv_same {C gr Bd : Nat} {S S' : Tb} (hD : 0 < S.2.1) (hB : S.2.1 ≤ (Bd : Int)) (hD' : 0 < S'.2.1) (hB' : S'.2.1 ≤ (Bd : Int)) (h : S'.1 gr C * S.2.1 = S.1 gr C * S'.2.1) : Zv C gr Bd S = Zv C gr Bd S' := by
  have a1 := Zv_mul (C := C) (gr := gr) hD hB
  have a2 := Zv_mul (C := C) (gr := gr) hD' hB'
  have e1 : Zv C gr Bd S * (S.2.1 * S'.2.1) = (S.1 gr C * S'.2.1) * (fac Bd : Int) := by rw [← Int.mul_assoc, a1, Int.mul_assoc, Int.mul_comm (fac Bd : Int), ← Int.mul_assoc]
  have e2 : Zv C gr Bd S' * (S.2.1 * S'.2.1) = (S'.1 gr C * S.2.1) * (fac Bd : Int) := by rw [Int.mul_comm S.2.1, ← Int.mul_assoc, a2, Int.mul_assoc, Int.mul_comm (fac Bd : Int), ← Int.mul_assoc]
  rw [h, ← e1] at e2
  have hp := Int.mul_pos hD hD'
  exact (Int.mul_eq_mul_right_iff (by omega)).mp e2.symm
/-- a property of the first few, or a first that hasn't it -/
theorem first_not (K : Nat) (p : Nat → Prop) : (∀ i, i < K → p i) ∨ ∃ j, j < K ∧ ¬ p j ∧ ∀ i, i < j → p i := by
  induction K with
  | zero => exact Or.inl fun i h => absurd h (by omega)
  | succ K ih =>
    rcases ih with h | ⟨j, h1, h2, h3⟩
    · by_cases hK : p K
      · exact Or.inl fun i hi => by by_cases e : i = K; rw [e]; exact hK; exact h i (by omega)
      · exact Or.inr ⟨K, by omega, hK, h⟩
    · exact Or.inr ⟨j, by omega, h2, h3⟩
theorem Rna.deg {R m n C gr : Nat} {st : Nat → Prop} {s : Nat → Tb} {K t Bd : Nat} (h : Rna R m n C gr st s K t Bd) {j : Nat} (hj : j ≤ K) (hd : ∀ i, i < j → (s (i + 1)).1 gr C * (s i).2.1 = (s i).1 gr C * (s (i + 1)).2.1) : j < 2 ^ t := by
  obtain ⟨hRm, hC, hgr, hgm, hGd, hst, hstp, hB⟩ := h
  have hx : ∀ i, ∃ q : Nat × Nat, i < j → Exc R m n C gr st (s i) (s (i + 1)) q.1 q.2 true ∧ q.1 < t ∧ q.2 < t := fun i => by
    by_cases hi : i < j
    · obtain ⟨e, l, h1, h2, h3⟩ := hstp i (by omega)
      refine ⟨(e, l), fun _ => ⟨?_, h2, h3⟩⟩
      rcases h1.up hRm hC hgr hgm (hGd i (by omega)) with h4 | h4
      · exact h4.2
      · have := hd i hi; omega
    · exact ⟨(0, 0), fun h => absurd h hi⟩
  obtain ⟨f, hf⟩ := Classical.axiomOfChoice hx
  exact run_len t (s := s) (e := fun i => (f i).1) (l := fun i => (f i).2) ⟨hRm, hC, hgr, hgm, fun i hi => hGd i (by omega), fun i hi => hst i (by omega), fun i hi => (hf i hi).1, fun i hi => (hf i hi).2⟩
theorem Rna.same {R m n C gr : Nat} {st : Nat → Prop} {s : Nat → Tb} {K t Bd : Nat} (h : Rna R m n C gr st s K t Bd) {j : Nat} (hj : j ≤ K) (hd : ∀ i, i < j → (s (i + 1)).1 gr C * (s i).2.1 = (s i).1 gr C * (s (i + 1)).2.1) : Zv C gr Bd (s j) = Zv C gr Bd (s 0) := by
  obtain ⟨hRm, hC, hgr, hgm, hGd, hst, hstp, hB⟩ := h
  induction j with
  | zero => rfl
  | succ j ih =>
    rw [← ih (by omega) (fun i hi => hd i (by omega))]
    exact (Zv_same (hGd j (by omega)).2.1 (hB j (by omega)).1 (hGd (j + 1) hj).2.1 (hB (j + 1) hj).1 (hd j (by omega))).symm
theorem rna_len (t : Nat) (Bd : Nat) (M : Nat) : ∀ {R m n C gr : Nat} {st : Nat → Prop} {s : Nat → Tb} {K : Nat}, Rna R m n C gr st s K t Bd → (Bd : Int) * (fac Bd : Int) - Zv C gr Bd (s 0) ≤ (M : Int) → K < (M + 1) * 2 ^ t := by
  induction M with
  | zero =>
    intro R m n C gr st s K h hM
    rcases first_not K (fun i => (s (i + 1)).1 gr C * (s i).2.1 = (s i).1 gr C * (s (i + 1)).2.1) with hd | ⟨j, hj, hn, hd⟩
    · have := h.deg (Nat.le_refl K) hd
      omega
    · have hs := h.same (by omega) hd
      obtain ⟨hRm, hC, hgr, hgm, hGd, hst, hstp, hB⟩ := id h
      obtain ⟨e, l, h1, h2, h3⟩ := hstp j hj
      rcases h1.up hRm hC hgr hgm (hGd j (by omega)) with h4 | h4
      · exact absurd h4.1 hn
      · have h5 := Zv_up (hGd j (by omega)).2.1 (hB j (by omega)).1 (hGd (j + 1) (by omega)).2.1 (hB (j + 1) (by omega)).1 h4
        have h6 := Zv_le (C := C) (gr := gr) (hGd (j + 1) (by omega)).2.1 (hB (j + 1) (by omega)).1 (hB (j + 1) (by omega)).2.1
        omega
  | succ M ih =>
    intro R m n C gr st s K h hM
    rcases first_not K (fun i => (s (i + 1)).1 gr C * (s i).2.1 = (s i).1 gr C * (s (i + 1)).2.1) with hd | ⟨j, hj, hn, hd⟩
    · have := h.deg (Nat.le_refl K) hd
      have h2 : 2 ^ t ≤ (M + 1 + 1) * 2 ^ t := Nat.le_mul_of_pos_left _ (by omega)
      omega
    · have hs := h.same (by omega) hd
      have hjt := h.deg (show j ≤ K by omega) hd
      obtain ⟨hRm, hC, hgr, hgm, hGd, hst, hstp, hB⟩ := id h
      obtain ⟨e, l, h1, h2, h3⟩ := hstp j hj
      rcases h1.up hRm hC hgr hgm (hGd j (by omega)) with h4 | h4
      · exact absurd h4.1 hn
      · have h5 := Zv_up (hGd j (by omega)).2.1 (hB j (by omega)).1 (hGd (j + 1) (by omega)).2.1 (hB (j + 1) (by omega)).1 h4
        have h6 := ih (s := fun i => s (j + 1 + i)) (K := K - j - 1) ⟨hRm, hC, hgr, hgm, fun i hi => hGd (j + 1 + i) (by omega), fun i hi => hst (j + 1 + i) (by omega), fun i hi => hstp (j + 1 + i) (by omega), fun i hi => hB (j + 1 + i) (by omega)⟩ (by show (Bd : Int) * (fac Bd : Int) - Zv C gr Bd (s (j + 1)) ≤ (M : Int); omega)
        have h7 : (M + 1 + 1) * 2 ^ t = (M + 1) * 2 ^ t + 2 ^ t := Nat.succ_mul _ _
        omega
/-- no run from S is as long as N -/
def Ends (R m n C gr : Nat) (st : Nat → Prop) (t Bd N : Nat) (S : Tb) : Prop := ∀ (s : Nat → Tb) (K : Nat), s 0 = S → Rna R m n C gr st s K t Bd → K < N
theorem ends (R m n C gr : Nat) (st : Nat → Prop) (t Bd : Nat) (S : Tb) : ∃ N, Ends R m n C gr st t Bd N S := by
  obtain ⟨M, hM⟩ : ∃ M : Nat, (Bd : Int) * (fac Bd : Int) - Zv C gr Bd S ≤ (M : Int) := ⟨((Bd : Int) * (fac Bd : Int) - Zv C gr Bd S).toNat, by omega⟩
  exact ⟨(M + 1) * 2 ^ t, fun s K h0 h => rna_len t Bd M h (by rw [h0]; exact hM)⟩
/-- the state is one that the rule may go on from -/
def Okay (R m n C gr : Nat) (st : Nat → Prop) (Bd : Nat) (S : Tb) : Prop := R ≤ m ∧ C < n ∧ R ≤ gr ∧ gr < m ∧ Gd R m n C S ∧ (∀ q, st q → nb n S q) ∧ S.2.1 ≤ (Bd : Int) ∧ S.1 gr C ≤ (Bd : Int) ∧ - (Bd : Int) ≤ S.1 gr C
theorem Ends.pos {R m n C gr : Nat} {st : Nat → Prop} {t Bd N : Nat} {S : Tb} (h : Ends R m n C gr st t Bd N S) (hO : Okay R m n C gr st Bd S) : 0 < N := by
  obtain ⟨a1, a2, a3, a4, a5, a6, a7⟩ := hO
  exact h (fun _ => S) 0 rfl ⟨a1, a2, a3, a4, fun _ _ => a5, fun _ _ => a6, fun i hi => absurd hi (by omega), fun _ _ => a7⟩
theorem Ends.next {R m n C gr : Nat} {st : Nat → Prop} {t Bd N : Nat} {S S' : Tb} (h : Ends R m n C gr st t Bd (N + 1) S) (hO : Okay R m n C gr st Bd S) {e l : Nat} (hx : Exc R m n C gr st S S' e l false) (he : e < t) (hl : l < t) : Ends R m n C gr st t Bd N S' := by
  intro s K h0 hr
  obtain ⟨a1, a2, a3, a4, a5, a6, a7⟩ := hO
  obtain ⟨-, -, -, -, b5, b6, b7, b8⟩ := hr
  have := h (fun i => match i with | 0 => S | i + 1 => s i) (K + 1) rfl ⟨a1, a2, a3, a4, fun i hi => by
    cases i with
    | zero => exact a5
    | succ i => exact b5 i (by omega), fun i hi => by
    cases i with
    | zero => exact a6
    | succ i => exact b6 i (by omega), fun i hi => by
    cases i with
    | zero => exact ⟨e, l, by show Exc R m n C gr st S (s 0) e l false; rw [h0]; exact hx, he, hl⟩
    | succ i => exact b7 i (by omega), fun i hi => by
    cases i with
    | zero => exact a7
    | succ i => exact b8 i (by omega)⟩
  omega
