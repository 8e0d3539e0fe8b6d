/-! runs of exchanges in which the goal does not grow -/
def nb (n : Nat) (S : Tb) (q : Nat) : Prop := ∃ j, j < n ∧ S.2.2.2 j = q
def Gd (R m n C : Nat) (S : Tb) : Prop := Lb m n S ∧ 0 < S.2.1 ∧ ∀ i, i < R → 0 ≤ S.1 i C
/-- one exchange by the rule, e in, l out -/
def Exc (R m n C gr : Nat) (st : Nat → Prop) (S S' : Tb) (e l : Nat) (b : Bool) : Prop :=
  ∃ r c g, Piv m n S S' r c g ∧ Rul R m n C gr st S r c ∧ (b = true → S.1 r C = 0) ∧ e = S.2.2.2 c ∧ l = S.2.2.1 r
theorem Exc.gd {R m n C gr : Nat} {st : Nat → Prop} {S S' : Tb} {e l : Nat} {b : Bool} (hRm : R ≤ m) (hC : C < n) (h : Exc R m n C gr st S S' e l b) (hG : Gd R m n C S) : Gd R m n C S' := by
  obtain ⟨r, c, g, hp, hr, -, -, -⟩ := h
  obtain ⟨hL, hD, hf⟩ := hG
  refine ⟨hp.lb hL, hp.2.2.2.2.1, fun i hi => ?_⟩
  obtain ⟨hrm, hcn, hgg, -, hD', e1, -, e3, -, e5, -⟩ := hp
  obtain ⟨hr, hc, hcC, hpos, -, -, -, hrat⟩ := hr
  have hg : g = 1 := by
    have h1 : 0 < g * S.1 r c := by omega
    have h2 : 0 < g := by
      refine Int.not_le.mp fun h => ?_
      have := Int.mul_nonneg (show 0 ≤ -g by omega) (show 0 ≤ S.1 r c by omega)
      rw [Int.neg_mul] at this
      omega
    have h3 : g ≤ 1 := by
      refine Int.not_lt.mp fun h => ?_
      have := Int.mul_lt_mul_of_pos_left h h2
      omega
    omega
  subst hg
  by_cases hn : i = r
  · subst hn
    rw [e3 C hC (fun e => hcC e.symm), Int.one_mul]
    exact hf i hi
  · have h5 := e5 i (by omega) hn C hC (fun e => hcC e.symm)
    rw [Int.one_mul] at h5
    have h6 : 0 ≤ S.1 i C * S.1 r c - S.1 i c * S.1 r C := by
      have a1 := Int.mul_nonneg (hf i hi) (show 0 ≤ S.1 r c by omega)
      by_cases h7 : 0 < S.1 i c
      · rcases hrat i hi h7 with h | ⟨h, -⟩ <;> rw [Int.mul_comm (S.1 i c)] <;> omega
      · have a2 := Int.mul_nonneg (show 0 ≤ - S.1 i c by omega) (hf r hr)
        rw [Int.neg_mul] at a2
        omega
    refine Int.not_lt.mp fun h => ?_
    have := Int.mul_lt_mul_of_pos_left h hD
    rw [Int.mul_zero] at this
    omega
theorem Exc.val {R m n C gr : Nat} {st : Nat → Prop} {S S' : Tb} {e l : Nat} (hRm : R ≤ m) (hC : C < n) (h : Exc R m n C gr st S S' e l true) (q : Nat) : Val0 R C S q ↔ Val0 R C S' q := by
  obtain ⟨r, c, g, hp, hr, h0, -, -⟩ := h
  have h0 := h0 rfl
  obtain ⟨hrm, hcn, hgg, hD, hD', e1, -, e3, -, e5, e6, e7, -⟩ := hp
  obtain ⟨hr, hc, hcC, -⟩ := hr
  have hk : ∀ i, i < R → i ≠ r → S.2.1 * S'.1 i C = S'.2.1 * S.1 i C := fun i hi hn => by
    rw [e5 i (by omega) hn C hC (fun e => hcC e.symm), h0, Int.mul_zero, Int.sub_zero, e1, Int.mul_comm (S.1 i C), Int.mul_assoc]
  constructor
  · intro h i hi e
    by_cases hn : i = r
    · subst hn
      rw [e3 C hC (fun e => hcC e.symm), h0, Int.mul_zero]
    · rw [e7 i (by omega) hn] at e
      have h1 := hk i hi hn
      rw [h i hi e, Int.mul_zero] at h1
      exact (Int.mul_eq_zero.mp h1).resolve_left (by omega)
  · intro h i hi e
    by_cases hn : i = r
    · subst hn; exact h0
    · have h1 := hk i hi hn
      rw [h i hi (by rw [e7 i (by omega) hn]; exact e), Int.mul_zero] at h1
      exact (Int.mul_eq_zero.mp h1.symm).resolve_left (by omega)
theorem Exc.sys {R m n C gr : Nat} {st : Nat → Prop} {S S' : Tb} {e l : Nat} {b : Bool} (h : Exc R m n C gr st S S' e l b) (x : Nat → Int) : Sys m n S x ↔ Sys m n S' x := by
  obtain ⟨r, c, g, hp, -⟩ := h
  exact ⟨fun hx => hp.sys hx, fun hx => hp.symm.sys hx⟩
theorem Exc.goal {R m n C gr : Nat} {st : Nat → Prop} {S S' : Tb} {e l : Nat} {b : Bool} (h : Exc R m n C gr st S S' e l b) {i : Nat} (h1 : R ≤ i) (h2 : i < m) : S'.2.2.1 i = S.2.2.1 i := by
  obtain ⟨r, c, g, hp, hr, -⟩ := h
  exact hp.2.2.2.2.2.2.2.2.2.2.2.1 i h2 (by have := hr.1; omega)
theorem Exc.stays {R m n C gr : Nat} {st : Nat → Prop} {S S' : Tb} {e l : Nat} {b : Bool} (h : Exc R m n C gr st S S' e l b) {q : Nat} (hq : q ≠ e) (hn : nb n S q) : nb n S' q := by
  obtain ⟨r, c, g, hp, hr, -, he, -⟩ := h
  obtain ⟨j, hj, ej⟩ := hn
  exact ⟨j, hj, by rw [hp.2.2.2.2.2.2.2.2.2.2.2.2.2 j hj (fun e9 => hq (by rw [he, ← e9]; exact ej.symm))]; exact ej⟩
theorem Exc.was {R m n C gr : Nat} {st : Nat → Prop} {S S' : Tb} {e l : Nat} {b : Bool} (h : Exc R m n C gr st S S' e l b) {q : Nat} (hq : q ≠ l) (hn : nb n S' q) : nb n S q := by
  obtain ⟨r, c, g, hp, hr, -, he, hl⟩ := h
  obtain ⟨j, hj, ej⟩ := hn
  by_cases e9 : j = c
  · subst e9
    rw [hp.2.2.2.2.2.2.2.2.2.2.2.2.1] at ej
    exact absurd (hl.trans ej).symm hq
  · exact ⟨j, hj, by rw [← hp.2.2.2.2.2.2.2.2.2.2.2.2.2 j hj e9]; exact ej⟩
theorem Exc.enter {R m n C gr : Nat} {st : Nat → Prop} {S S' : Tb} {e l : Nat} {b : Bool} (h : Exc R m n C gr st S S' e l b) : nb n S e := by
  obtain ⟨r, c, g, hp, hr, -, he, hl⟩ := h
  exact ⟨c, hr.2.1, he.symm⟩
theorem Exc.left {R m n C gr : Nat} {st : Nat → Prop} {S S' : Tb} {e l : Nat} {b : Bool} (h : Exc R m n C gr st S S' e l b) : nb n S' l := by
  obtain ⟨r, c, g, hp, hr, -, he, hl⟩ := h
  exact ⟨c, hr.2.1, by rw [hl]; exact hp.2.2.2.2.2.2.2.2.2.2.2.2.1⟩
theorem Exc.in_ {R m n C gr : Nat} {st : Nat → Prop} {S S' : Tb} {e l : Nat} {b : Bool} (hRm : R ≤ m) (hL : Lb m n S') (h : Exc R m n C gr st S S' e l b) : ¬ nb n S' e := by
  obtain ⟨r, c, g, hp, hr, -, he, hl⟩ := h
  rintro ⟨j, hj, ej⟩
  have := hr.1
  exact hL.2.2 r j (by omega) hj (by rw [hp.2.2.2.2.2.2.2.2.2.2.1, ej]; exact he.symm)
theorem Exc.out_ {R m n C gr : Nat} {st : Nat → Prop} {S S' : Tb} {e l : Nat} {b : Bool} (hRm : R ≤ m) (hL : Lb m n S) (h : Exc R m n C gr st S S' e l b) : ¬ nb n S l := by
  obtain ⟨r, c, g, hp, hr, -, he, hl⟩ := h
  rintro ⟨j, hj, ej⟩
  have := hr.1
  exact hL.2.2 r j (by omega) hj (by rw [ej]; exact hl.symm)
theorem Exc.free {R m n C gr : Nat} {st : Nat → Prop} {S S' : Tb} {e l : Nat} {b : Bool} (h : Exc R m n C gr st S S' e l b) : ¬ st e := by
  obtain ⟨r, c, g, hp, hr, -, he, hl⟩ := h
  rw [he]; exact hr.2.2.2.2.2.1
/-- a run of K exchanges that leave the goal as it is; moved labels are at most t -/
def Rnn (R m n C gr : Nat) (st : Nat → Prop) (s : Nat → Tb) (e l : Nat → Nat) (K t : Nat) : Prop :=
  R ≤ m ∧ C < n ∧ R ≤ gr ∧ gr < m ∧ (∀ i, i ≤ K → Gd R m n C (s i)) ∧ (∀ i, i ≤ K → ∀ q, st q → nb n (s i) q) ∧ (∀ i, i < K → Exc R m n C gr st (s i) (s (i + 1)) (e i) (l i) true) ∧ ∀ i, i < K → e i < t ∧ l i < t
theorem run_sys {R m n C gr : Nat} {st : Nat → Prop} {s : Nat → Tb} {e l : Nat → Nat} {K t : Nat} (h : Rnn R m n C gr st s e l K t) (i d : Nat) (hk : i + d ≤ K) (x : Nat → Int) : Sys m n (s i) x ↔ Sys m n (s (i + d)) x := by
  induction d with
  | zero => exact Iff.rfl
  | succ d ih => exact (ih (by omega)).trans ((h.2.2.2.2.2.2.1 (i + d) (by omega)).sys x)
theorem run_val {R m n C gr : Nat} {st : Nat → Prop} {s : Nat → Tb} {e l : Nat → Nat} {K t : Nat} (h : Rnn R m n C gr st s e l K t) (i d : Nat) (hk : i + d ≤ K) (q : Nat) : Val0 R C (s i) q ↔ Val0 R C (s (i + d)) q := by
  induction d with
  | zero => exact Iff.rfl
  | succ d ih => exact (ih (by omega)).trans ((h.2.2.2.2.2.2.1 (i + d) (by omega)).val h.1 h.2.1 q)
theorem run_goal {R m n C gr : Nat} {st : Nat → Prop} {s : Nat → Tb} {e l : Nat → Nat} {K t : Nat} (h : Rnn R m n C gr st s e l K t) (i d : Nat) (hk : i + d ≤ K) {k : Nat} (h1 : R ≤ k) (h2 : k < m) : (s (i + d)).2.2.1 k = (s i).2.2.1 k := by
  induction d with
  | zero => rfl
  | succ d ih => exact ((h.2.2.2.2.2.2.1 (i + d) (by omega)).goal h1 h2).trans (ih (by omega))
theorem run_stays {R m n C gr : Nat} {st : Nat → Prop} {s : Nat → Tb} {e l : Nat → Nat} {K t : Nat} (h : Rnn R m n C gr st s e l K t) (i d : Nat) (hk : i + d ≤ K) {q : Nat} (hq : ∀ j, i ≤ j → j < i + d → q ≠ e j) (hn : nb n (s i) q) : nb n (s (i + d)) q := by
  induction d with
  | zero => exact hn
  | succ d ih => exact (h.2.2.2.2.2.2.1 (i + d) (by omega)).stays (hq (i + d) (by omega) (by omega)) (ih (by omega) (fun j h1 h2 => hq j h1 (by omega)))
theorem run_was {R m n C gr : Nat} {st : Nat → Prop} {s : Nat → Tb} {e l : Nat → Nat} {K t : Nat} (h : Rnn R m n C gr st s e l K t) (i d : Nat) (hk : i + d ≤ K) {q : Nat} (hq : ∀ j, i ≤ j → j < i + d → q ≠ l j) (hn : nb n (s (i + d)) q) : nb n (s i) q := by
  induction d with
  | zero => exact hn
  | succ d ih => exact ih (by omega) (fun j h1 h2 => hq j h1 (by omega)) ((h.2.2.2.2.2.2.1 (i + d) (by omega)).was (hq (i + d) (by omega) (by omega)) hn)
/-- the greatest label moves at most once -/
theorem run_once {R m n C gr : Nat} {st : Nat → Prop} {s : Nat → Tb} {e l : Nat → Nat} {K t : Nat} (h : Rnn R m n C gr st s e l K (t + 1)) (d : Nat) : ∀ i, i + d + 1 < K → (e i = t ∨ l i = t) → (e (i + d + 1) = t ∨ l (i + d + 1) = t) → False := by
  induction d using Nat.strongRecOn with
  | ind d ih =>
    intro i hk hi hd
    by_cases hb : ∃ j, i < j ∧ j < i + d + 1 ∧ (e j = t ∨ l j = t)
    · obtain ⟨j, h1, h2, h3⟩ := hb
      exact ih (j - i - 1) (by omega) i (by omega) hi (by rw [show i + (j - i - 1) + 1 = j by omega]; exact h3)
    · have hne : ∀ j, i + 1 ≤ j → j < i + d + 1 → t ≠ e j := fun j h1 h2 e9 => hb ⟨j, by omega, h2, Or.inl e9.symm⟩
      have hnl : ∀ j, i + 1 ≤ j → j < i + d + 1 → t ≠ l j := fun j h1 h2 e9 => hb ⟨j, by omega, h2, Or.inr e9.symm⟩
      obtain ⟨hRm, hC, hgr, hgm, hGd, hst, hstp, hle⟩ := id h
      have s1 := hstp i (by omega)
      have s2 := hstp (i + d + 1) (by omega)
      have hle1 := hle i (by omega)
      have hle2 := hle (i + d + 1) (by omega)
      have hkk : i + (d + 1) = i + d + 1 := by omega
      have hkk2 : i + 1 + d = i + d + 1 := by omega
      rcases hi with hi | hi
      · -- it enters first
        have a1 : ¬ nb n (s (i + 1)) t := by rw [← hi]; exact s1.in_ hRm (hGd (i + 1) (by omega)).1
        have a2 : ¬ nb n (s (i + d + 1)) t := fun hn => a1 (run_was h (i + 1) d (by omega) (by rw [hkk2]; exact hnl) (by rw [hkk2]; exact hn))
        rcases hd with hd | hd
        · exact a2 (by rw [← hd]; exact s2.enter)
        · obtain ⟨r1, c1, g1, p1, R1, -, he1, -⟩ := s1
          obtain ⟨r2, c2, g2, p2, R2, -, he2, hl2⟩ := s2
          exact bland hRm hgr hgm (hGd i (by omega)).1 (hGd (i + d + 1) (by omega)).1 (hGd i (by omega)).2.1 (hGd (i + d + 1) (by omega)).2.1 (hGd (i + d + 1) (by omega)).2.2 R1 R2
            (by omega) (by omega) (fun x hx => (run_sys h i (d + 1) (by omega) x).mpr (by rw [hkk]; exact hx))
            (fun k h1 h2 => by have := run_goal h i (d + 1) (by omega) h1 h2; rw [hkk] at this; exact this.symm)
            (fun j hj hq => by
              have h3 := run_stays h i (d + 1) (by omega) (q := (s i).2.2.2 j) (fun k h1 h2 e9 => by
                rcases hq with hq | hq
                · exact (hstp k (by omega)).free (e9 ▸ hq)
                · have := hle k (by omega); omega) ⟨j, hj, rfl⟩
              rw [hkk] at h3; exact h3)
            (fun q hq => by have := (run_val h i (d + 1) (by omega) q).mp hq; rw [hkk] at this; exact this)
      · -- it leaves first
        have a1 : nb n (s (i + 1)) t := by rw [← hi]; exact s1.left
        have a2 : nb n (s (i + d + 1)) t := by have := run_stays h (i + 1) d (by omega) (by rw [hkk2]; exact hne) a1; rw [hkk2] at this; exact this
        rcases hd with hd | hd
        · obtain ⟨r1, c1, g1, p1, R1, -, he1, hl1⟩ := s1
          obtain ⟨r2, c2, g2, p2, R2, -, he2, hl2⟩ := s2
          exact bland hRm hgr hgm (hGd (i + d + 1) (by omega)).1 (hGd i (by omega)).1 (hGd (i + d + 1) (by omega)).2.1 (hGd i (by omega)).2.1 (hGd i (by omega)).2.2 R2 R1
            (by omega) (by omega) (fun x hx => by have := (run_sys h i (d + 1) (by omega) x).mp hx; rw [hkk] at this; exact this)
            (fun k h1 h2 => by have := run_goal h i (d + 1) (by omega) h1 h2; rw [hkk] at this; exact this)
            (fun j hj hq => by
              rcases hq with hq | hq
              · exact hst i (by omega) _ hq
              · exact run_was h i (d + 1) (by omega) (fun k h1 h2 e9 => by have := hle k (by omega); omega) ⟨j, by rw [hkk]; exact ⟨hj, rfl⟩⟩)
            (fun q hq => (run_val h i (d + 1) (by omega) q).mpr (by rw [hkk]; exact hq))
        · exact s2.out_ hRm (hGd (i + d + 1) (by omega)).1 (by rw [hd]; exact a2)
/-- so many exchanges at most -/
theorem run_len (t : Nat) : ∀ {R m n C gr : Nat} {st : Nat → Prop} {s : Nat → Tb} {e l : Nat → Nat} {K : Nat}, Rnn R m n C gr st s e l K t → K < 2 ^ t := by
  induction t with
  | zero =>
    intro R m n C gr st s e l K h
    refine Nat.lt_of_not_le fun hK => ?_
    have := h.2.2.2.2.2.2.2 0 (by simp at hK; omega)
    omega
  | succ t ih =>
    intro R m n C gr st s e l K h
    obtain ⟨hRm, hC, hgr, hgm, hGd, hst, hstp, hle⟩ := id h
    have hp : 2 ^ (t + 1) = 2 ^ t + 2 ^ t := by rw [Nat.pow_succ]; omega
    by_cases hb : ∃ j, j < K ∧ (e j = t ∨ l j = t)
    · obtain ⟨j, hj, hm⟩ := hb
      have h1 : j < 2 ^ t := ih (s := s) (e := e) (l := l) (K := j) ⟨hRm, hC, hgr, hgm, fun i hi => hGd i (by omega), fun i hi => hst i (by omega), fun i hi => hstp i (by omega), fun i hi => by
        have h2 := hle i (by omega)
        have h3 : ¬ (e i = t ∨ l i = t) := fun h3 => run_once h (j - i - 1) i (by omega) h3 (by rw [show i + (j - i - 1) + 1 = j by omega]; exact hm)
        omega⟩
      have h2 : K - j - 1 < 2 ^ t := ih (s := fun i => s (j + 1 + i)) (e := fun i => e (j + 1 + i)) (l := fun i => l (j + 1 + i)) (K := K - j - 1) ⟨hRm, hC, hgr, hgm, fun i hi => hGd (j + 1 + i) (by omega), fun i hi => hst (j + 1 + i) (by omega), fun i hi => hstp (j + 1 + i) (by omega), fun i hi => by
        have h2 := hle (j + 1 + i) (by omega)
        have h3 : ¬ (e (j + 1 + i) = t ∨ l (j + 1 + i) = t) := fun h3 => run_once h i j (by omega) hm (by rw [show j + i + 1 = j + 1 + i by omega]; exact h3)
        show e (j + 1 + i) < t ∧ l (j + 1 + i) < t
        omega⟩
      omega
    · have h1 : K < 2 ^ t := ih (s := s) (e := e) (l := l) ⟨hRm, hC, hgr, hgm, hGd, hst, hstp, fun i hi => by
        have h2 := hle i hi
        have h3 : ¬ (e i = t ∨ l i = t) := fun h3 => hb ⟨i, hi, h3⟩
        omega⟩
      omega
