/-- how many members the binding b has -/
def MbO (f17 f36 f37 : Nat → Int32) (b mB : Nat) : Prop := ∃ o1 m1, o1 < 44 ∧ f36 b = nI o1 ∧ f17 o1 = nI m1 ∧ m1 ≤ 12 ∧ ((f37 b = -1 ∧ mB = m1) ∨ ∃ o2 m2, o2 < 44 ∧ f37 b = nI o2 ∧ f17 o2 = nI m2 ∧ m2 ≤ 12 ∧ mB = m1 * m2)
/-- a sum: what is known of it by its stages -/
theorem TopO.sum {F : Nat → Nat → Int32} {V : Nat → Prop} {wt dp pd : Nat → Nat} {n k s la h p r : Nat} (t : TopO F V wt dp pd n k s la h p r) (hk : k = 9) : (s = 0 ∧ p = h ∧ wt n ≤ r) ∨ (s = 1 ∧ p = h + 1 ∧ la ≤ mbO F n ∧ ∃ c W, SumW F V wt dp pd n c W ∧ (mbO F n - la) * W + 1 ≤ r) ∨ (s = 2 ∧ p = h + 1 ∧ la < mbO F n ∧ ∃ c W, SumW F V wt dp pd n c W ∧ (mbO F n - (la + 1)) * W + wt c + 5 ≤ r) ∨ (s = 3 ∧ p = h + 2 ∧ la < mbO F n ∧ ∃ c W, SumW F V wt dp pd n c W ∧ (mbO F n - (la + 1)) * W + 3 ≤ r) := by
  rcases t with ⟨h1, h2, h3⟩ | ⟨_, h1, h2, h3, h4⟩ | ⟨hn, h1, h2⟩ | h1
  · exact Or.inl ⟨h1, h2, h3⟩
  · exact Or.inr (Or.inl ⟨h1, h2, h3, h4⟩)
  · rcases h1 with h1 | h1 | h1 | h1 | h1 | h1 | h1 | h1 | h1 | h1 | h1 | h1
    · omega
    · omega
    · omega
    · omega
    · omega
    · exact absurd trivial h1.2.2.2.1
    · obtain ⟨_, a1, a2, _, a3, a4⟩ := h1
      exact Or.inr (Or.inr (Or.inr ⟨a1, by omega, a3, a4⟩))
    · omega
    · omega
    · omega
    · omega
    · omega
  · rcases h1 with h1 | h1 | h1 | h1 | h1 | h1 | h1 | h1 | h1 | h1 | h1 | h1
    · omega
    · omega
    · omega
    · omega
    · omega
    · obtain ⟨_, a1, a2, _, a3, a4⟩ := h1
      exact Or.inr (Or.inr (Or.inl ⟨a1, by omega, a3, a4⟩))
    · exact absurd h1.2.2.2.1 (fun h => h)
    · omega
    · omega
    · omega
    · omega
    · omega
/-- a sum's own turn: it stays -/
theorem StpO.stay {F : Nat → Nat → Int32} {V : Nat → Prop} {wt dp pd : Nat → Nat} {n k f fr h r p2 : Nat} {f52 f53 f54 g54 : Nat → Int32} (s' la' r' : Nat) (hf : f < 4299) (hfr : fr = f + 1) (h54 : ∀ q, q < f → g54 q = f54 q) (hla : k = 2 ∨ k = 3 ∨ k = 9 → g54 f = nI la') (ht : TopO F V wt dp pd n k s' la' h p2 r') (hr : r' < r) :
    StpO F V wt dp pd n k f h r f52 f53 f54 f52 (upd f53 (nI f).toNatClampNeg (nI s')) g54 fr p2 :=
  ⟨fun q hq => ⟨rfl, by rw [upd_at (by omega), if_neg (by omega)], h54 q hq⟩, Or.inr (Or.inr ⟨hfr, rfl, s', la', r', by rw [upd_at (by omega), if_pos rfl], hla, ht, hr⟩)⟩
