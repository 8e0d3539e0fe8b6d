theorem NdK.e0 {F : Nat → Nat → Int32} {V : Nat → Prop} {wt dp pd : Nat → Nat} {se n k : Nat} (h : NdK F V wt dp pd se n k) (hk : k = 0) : 1 ≤ pd n ∧ -1000200 ≤ (F 30 n).toInt ∧ (F 30 n).toInt ≤ 1000200 := by
  rcases h with h | h | h | h | h | h | h | h
  · exact h.2
  · (exfalso; obtain ⟨h, _⟩ := h; omega)
  · (exfalso; obtain ⟨h, _⟩ := h; omega)
  · (exfalso; obtain ⟨h, _⟩ := h; omega)
  · (exfalso; obtain ⟨h, _⟩ := h; omega)
  · (exfalso; obtain ⟨h, _⟩ := h; omega)
  · (exfalso; obtain ⟨h, _⟩ := h; omega)
  · (exfalso; obtain ⟨h, _⟩ := h; omega)
theorem NdK.e1 {F : Nat → Nat → Int32} {V : Nat → Prop} {wt dp pd : Nat → Nat} {se n k : Nat} (h : NdK F V wt dp pd se n k) (hk : k = 1) : 1 ≤ pd n ∧ ∃ x, x < 60 ∧ F 30 n = nI x := by
  rcases h with h | h | h | h | h | h | h | h
  · (exfalso; obtain ⟨h, _⟩ := h; omega)
  · exact h.2
  · (exfalso; obtain ⟨h, _⟩ := h; omega)
  · (exfalso; obtain ⟨h, _⟩ := h; omega)
  · (exfalso; obtain ⟨h, _⟩ := h; omega)
  · (exfalso; obtain ⟨h, _⟩ := h; omega)
  · (exfalso; obtain ⟨h, _⟩ := h; omega)
  · (exfalso; obtain ⟨h, _⟩ := h; omega)
theorem NdK.e2 {F : Nat → Nat → Int32} {V : Nat → Prop} {wt dp pd : Nat → Nat} {se n k : Nat} (h : NdK F V wt dp pd se n k) (hk : k = 2 ∨ k = 3) : 1 ≤ pd n ∧ ∃ a pl o1 o2 aT d c, NamK F V wt dp pd se n k a pl o1 o2 aT d c := by
  rcases h with h | h | h | h | h | h | h | h
  · (exfalso; obtain ⟨h, _⟩ := h; omega)
  · (exfalso; obtain ⟨h, _⟩ := h; omega)
  · exact h.2
  · (exfalso; obtain ⟨h, _⟩ := h; omega)
  · (exfalso; obtain ⟨h, _⟩ := h; omega)
  · (exfalso; obtain ⟨h, _⟩ := h; omega)
  · (exfalso; obtain ⟨h, _⟩ := h; omega)
  · (exfalso; obtain ⟨h, _⟩ := h; omega)
theorem NdK.e4 {F : Nat → Nat → Int32} {V : Nat → Prop} {wt dp pd : Nat → Nat} {se n k : Nat} (h : NdK F V wt dp pd se n k) (hk : k = 4) : 1 ≤ pd n ∧ ∃ c, KidL F V dp pd n 30 0 c ∧ wt c + 3 ≤ wt n := by
  rcases h with h | h | h | h | h | h | h | h
  · (exfalso; obtain ⟨h, _⟩ := h; omega)
  · (exfalso; obtain ⟨h, _⟩ := h; omega)
  · (exfalso; obtain ⟨h, _⟩ := h; omega)
  · exact h.2
  · (exfalso; obtain ⟨h, _⟩ := h; omega)
  · (exfalso; obtain ⟨h, _⟩ := h; omega)
  · (exfalso; obtain ⟨h, _⟩ := h; omega)
  · (exfalso; obtain ⟨h, _⟩ := h; omega)
theorem NdK.e5 {F : Nat → Nat → Int32} {V : Nat → Prop} {wt dp pd : Nat → Nat} {se n k : Nat} (h : NdK F V wt dp pd se n k) (hk : (5 ≤ k ∧ k ≤ 8) ∨ k = 13) : 2 ≤ pd n ∧ ∃ c d, KidL F V dp pd n 30 0 c ∧ KidL F V dp pd n 31 1 d ∧ wt c + wt d + 3 ≤ wt n := by
  rcases h with h | h | h | h | h | h | h | h
  · (exfalso; obtain ⟨h, _⟩ := h; omega)
  · (exfalso; obtain ⟨h, _⟩ := h; omega)
  · (exfalso; obtain ⟨h, _⟩ := h; omega)
  · (exfalso; obtain ⟨h, _⟩ := h; omega)
  · exact h.2
  · (exfalso; obtain ⟨h, _⟩ := h; omega)
  · (exfalso; obtain ⟨h, _⟩ := h; omega)
  · (exfalso; obtain ⟨h, _⟩ := h; omega)
theorem NdK.e9 {F : Nat → Nat → Int32} {V : Nat → Prop} {wt dp pd : Nat → Nat} {se n k : Nat} (h : NdK F V wt dp pd se n k) (hk : k = 9) : 2 ≤ pd n ∧ ∃ b c W, F 30 n = nI b ∧ b < 900 ∧ BnO (F 36) (F 37) (F 38) se b ∧ MbO (F 17) (F 36) (F 37) b (mbO F n) ∧ mbO F n ≤ 144 ∧ SumW F V wt dp pd n c W ∧ mbO F n * W + 2 ≤ wt n := by
  rcases h with h | h | h | h | h | h | h | h
  · (exfalso; obtain ⟨h, _⟩ := h; omega)
  · (exfalso; obtain ⟨h, _⟩ := h; omega)
  · (exfalso; obtain ⟨h, _⟩ := h; omega)
  · (exfalso; obtain ⟨h, _⟩ := h; omega)
  · (exfalso; obtain ⟨h, _⟩ := h; omega)
  · exact h.2
  · (exfalso; obtain ⟨h, _⟩ := h; omega)
  · (exfalso; obtain ⟨h, _⟩ := h; omega)
theorem NdK.e10 {F : Nat → Nat → Int32} {V : Nat → Prop} {wt dp pd : Nat → Nat} {se n k : Nat} (h : NdK F V wt dp pd se n k) (hk : k = 10 ∨ k = 11) : ∃ c d, KidT F V dp pd n 30 0 c ∧ KidT F V dp pd n 31 0 d ∧ wt c + wt d + 3 ≤ wt n := by
  rcases h with h | h | h | h | h | h | h | h
  · (exfalso; obtain ⟨h, _⟩ := h; omega)
  · (exfalso; obtain ⟨h, _⟩ := h; omega)
  · (exfalso; obtain ⟨h, _⟩ := h; omega)
  · (exfalso; obtain ⟨h, _⟩ := h; omega)
  · (exfalso; obtain ⟨h, _⟩ := h; omega)
  · (exfalso; obtain ⟨h, _⟩ := h; omega)
  · exact h.2
  · (exfalso; obtain ⟨h, _⟩ := h; omega)
theorem NdK.e12 {F : Nat → Nat → Int32} {V : Nat → Prop} {wt dp pd : Nat → Nat} {se n k : Nat} (h : NdK F V wt dp pd se n k) (hk : k = 12) : ∃ c, KidT F V dp pd n 30 0 c ∧ wt c + 3 ≤ wt n := by
  rcases h with h | h | h | h | h | h | h | h
  · (exfalso; obtain ⟨h, _⟩ := h; omega)
  · (exfalso; obtain ⟨h, _⟩ := h; omega)
  · (exfalso; obtain ⟨h, _⟩ := h; omega)
  · (exfalso; obtain ⟨h, _⟩ := h; omega)
  · (exfalso; obtain ⟨h, _⟩ := h; omega)
  · (exfalso; obtain ⟨h, _⟩ := h; omega)
  · (exfalso; obtain ⟨h, _⟩ := h; omega)
  · exact h.2
theorem NdK.k13 {F : Nat → Nat → Int32} {V : Nat → Prop} {wt dp pd : Nat → Nat} {se n k : Nat} (h : NdK F V wt dp pd se n k) : k ≤ 13 := by
  rcases h with h | h | h | h | h | h | h | h <;> (obtain ⟨h, _⟩ := h; omega)
theorem TopO.leaf {F : Nat → Nat → Int32} {V : Nat → Prop} {wt dp pd : Nat → Nat} {n k s la h p r : Nat} (t : TopO F V wt dp pd n k s la h p r) (hk : k ≤ 1) : s = 0 ∧ p = h ∧ wt n ≤ r := by
  rcases t with ⟨h1, h2, h3⟩ | ⟨h1, _⟩ | ⟨hn, h1, h2⟩ | h1
  · exact ⟨h1, h2, h3⟩
  · omega
  · rcases h1 with h1 | h1 | h1 | h1 | h1 | h1 | h1 | h1 | h1 | h1 | h1 | h1
    · (exfalso; obtain ⟨h1, _⟩ := h1; omega)
    · (exfalso; obtain ⟨h1, h4, _⟩ := h1; omega)
    · (exfalso; obtain ⟨h1, h4, _⟩ := h1; omega)
    · (exfalso; obtain ⟨h1, _⟩ := h1; omega)
    · (exfalso; obtain ⟨h1, _⟩ := h1; omega)
    · (exfalso; obtain ⟨h1, _⟩ := h1; omega)
    · (exfalso; obtain ⟨h1, _⟩ := h1; omega)
    · (exfalso; obtain ⟨h1, _⟩ := h1; omega)
    · (exfalso; obtain ⟨h1, _⟩ := h1; omega)
    · (exfalso; obtain ⟨h1, _⟩ := h1; omega)
    · (exfalso; obtain ⟨h1, _⟩ := h1; omega)
    · (exfalso; obtain ⟨h1, _⟩ := h1; omega)
  · rcases h1 with h1 | h1 | h1 | h1 | h1 | h1 | h1 | h1 | h1 | h1 | h1 | h1
    · (exfalso; obtain ⟨h1, _⟩ := h1; omega)
    · (exfalso; obtain ⟨h1, h4, _⟩ := h1; omega)
    · (exfalso; obtain ⟨h1, h4, _⟩ := h1; omega)
    · (exfalso; obtain ⟨h1, _⟩ := h1; omega)
    · (exfalso; obtain ⟨h1, _⟩ := h1; omega)
    · (exfalso; obtain ⟨h1, _⟩ := h1; omega)
    · (exfalso; obtain ⟨h1, _⟩ := h1; omega)
    · (exfalso; obtain ⟨h1, _⟩ := h1; omega)
    · (exfalso; obtain ⟨h1, _⟩ := h1; omega)
    · (exfalso; obtain ⟨h1, _⟩ := h1; omega)
    · (exfalso; obtain ⟨h1, _⟩ := h1; omega)
    · (exfalso; obtain ⟨h1, _⟩ := h1; omega)
theorem TopO.minus {F : Nat → Nat → Int32} {V : Nat → Prop} {wt dp pd : Nat → Nat} {n k s la h p r : Nat} (t : TopO F V wt dp pd n k s la h p r) (hk : k = 4) : (s = 0 ∧ p = h ∧ wt n ≤ r) ∨ (s = 1 ∧ p = h + 1 ∧ 1 ≤ r) := by
  rcases t with ⟨h1, h2, h3⟩ | ⟨h1, _⟩ | ⟨hn, h1, h2⟩ | h1
  · exact Or.inl ⟨h1, h2, h3⟩
  · omega
  · rcases h1 with h1 | h1 | h1 | h1 | h1 | h1 | h1 | h1 | h1 | h1 | h1 | h1
    · exact Or.inr ⟨h1.2.1, by (have h5 := h1.2.2.1); omega, h1.2.2.2.2⟩
    · (exfalso; obtain ⟨h1, h4, _⟩ := h1; omega)
    · (exfalso; obtain ⟨h1, h4, _⟩ := h1; omega)
    · (exfalso; obtain ⟨h1, _⟩ := h1; omega)
    · (exfalso; obtain ⟨h1, _⟩ := h1; omega)
    · (exfalso; obtain ⟨h1, _⟩ := h1; omega)
    · (exfalso; obtain ⟨h1, _⟩ := h1; omega)
    · (exfalso; obtain ⟨h1, _⟩ := h1; omega)
    · (exfalso; obtain ⟨h1, _⟩ := h1; omega)
    · (exfalso; obtain ⟨h1, _⟩ := h1; omega)
    · (exfalso; obtain ⟨h1, _⟩ := h1; omega)
    · (exfalso; obtain ⟨h1, _⟩ := h1; omega)
  · rcases h1 with h1 | h1 | h1 | h1 | h1 | h1 | h1 | h1 | h1 | h1 | h1 | h1
    · exact absurd h1.2.2.2.1 (fun h => h)
    · (exfalso; obtain ⟨h1, h4, _⟩ := h1; omega)
    · (exfalso; obtain ⟨h1, h4, _⟩ := h1; omega)
    · (exfalso; obtain ⟨h1, _⟩ := h1; omega)
    · (exfalso; obtain ⟨h1, _⟩ := h1; omega)
    · (exfalso; obtain ⟨h1, _⟩ := h1; omega)
    · (exfalso; obtain ⟨h1, _⟩ := h1; omega)
    · (exfalso; obtain ⟨h1, _⟩ := h1; omega)
    · (exfalso; obtain ⟨h1, _⟩ := h1; omega)
    · (exfalso; obtain ⟨h1, _⟩ := h1; omega)
    · (exfalso; obtain ⟨h1, _⟩ := h1; omega)
    · (exfalso; obtain ⟨h1, _⟩ := h1; omega)
theorem TopO.not {F : Nat → Nat → Int32} {V : Nat → Prop} {wt dp pd : Nat → Nat} {n k s la h p r : Nat} (t : TopO F V wt dp pd n k s la h p r) (hk : k = 12) : (s = 0 ∧ p = h ∧ wt n ≤ r) ∨ (s = 1 ∧ p = h ∧ 1 ≤ r) := by
  rcases t with ⟨h1, h2, h3⟩ | ⟨h1, _⟩ | ⟨hn, h1, h2⟩ | h1
  · exact Or.inl ⟨h1, h2, h3⟩
  · omega
  · rcases h1 with h1 | h1 | h1 | h1 | h1 | h1 | h1 | h1 | h1 | h1 | h1 | h1
    · (exfalso; obtain ⟨h1, _⟩ := h1; omega)
    · (exfalso; obtain ⟨h1, h4, _⟩ := h1; omega)
    · (exfalso; obtain ⟨h1, h4, _⟩ := h1; omega)
    · (exfalso; obtain ⟨h1, _⟩ := h1; omega)
    · (exfalso; obtain ⟨h1, _⟩ := h1; omega)
    · (exfalso; obtain ⟨h1, _⟩ := h1; omega)
    · (exfalso; obtain ⟨h1, _⟩ := h1; omega)
    · (exfalso; obtain ⟨h1, _⟩ := h1; omega)
    · (exfalso; obtain ⟨h1, _⟩ := h1; omega)
    · exact absurd trivial h1.2.2.2.1
    · (exfalso; obtain ⟨h1, _⟩ := h1; omega)
    · (exfalso; obtain ⟨h1, _⟩ := h1; omega)
  · rcases h1 with h1 | h1 | h1 | h1 | h1 | h1 | h1 | h1 | h1 | h1 | h1 | h1
    · (exfalso; obtain ⟨h1, _⟩ := h1; omega)
    · (exfalso; obtain ⟨h1, h4, _⟩ := h1; omega)
    · (exfalso; obtain ⟨h1, h4, _⟩ := h1; omega)
    · (exfalso; obtain ⟨h1, _⟩ := h1; omega)
    · (exfalso; obtain ⟨h1, _⟩ := h1; omega)
    · (exfalso; obtain ⟨h1, _⟩ := h1; omega)
    · (exfalso; obtain ⟨h1, _⟩ := h1; omega)
    · (exfalso; obtain ⟨h1, _⟩ := h1; omega)
    · (exfalso; obtain ⟨h1, _⟩ := h1; omega)
    · exact Or.inr ⟨h1.2.1, h1.2.2.1, h1.2.2.2.2⟩
    · (exfalso; obtain ⟨h1, _⟩ := h1; omega)
    · (exfalso; obtain ⟨h1, _⟩ := h1; omega)
theorem WtO.m1 {F : Nat → Nat → Int32} {V : Nat → Prop} {wt dp pd : Nat → Nat} {n la h r : Nat} {lin : Prop} (hl : lin) (hr : 1 ≤ r) : WtO F V wt dp pd n 4 1 la h h r lin :=
  Or.inl ⟨rfl, rfl, rfl, hl, hr⟩
theorem WtO.t1 {F : Nat → Nat → Int32} {V : Nat → Prop} {wt dp pd : Nat → Nat} {n la h r : Nat} {lin : Prop} (hl : ¬ lin) (hr : 1 ≤ r) : WtO F V wt dp pd n 12 1 la h h r lin :=
  Or.inr (Or.inr (Or.inr (Or.inr (Or.inr (Or.inr (Or.inr (Or.inr (Or.inr (Or.inl ⟨rfl, rfl, rfl, hl, hr⟩)))))))))
theorem neg_2m {x : Int32} (h1 : -2000000 ≤ x.toInt) (h2 : x.toInt ≤ 2000000) : -2000000 ≤ (-x).toInt ∧ (-x).toInt ≤ 2000000 := by
  rw [Int32.toInt_neg, Int.bmod_eq_of_le (by omega) (by omega)]
  omega
