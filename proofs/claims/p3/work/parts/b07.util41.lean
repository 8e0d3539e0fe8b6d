theorem WtO.n1 {F : Nat → Nat → Int32} {V : Nat → Prop} {wt dp pd : Nat → Nat} {n k la h r d : Nat} {lin : Prop} (hk : k = 2 ∨ k = 3) (hl : lin) (hr : 1 ≤ r) (hd : KidL F V dp pd n 31 0 d) (hc : ∀ c, KidL F V dp pd n 32 0 c → wt c + 2 ≤ r) : WtO F V wt dp pd n k 1 la h h r lin :=
  Or.inr (Or.inr (Or.inr (Or.inl ⟨hk, rfl, rfl, hl, hr, ⟨d, hd⟩, hc⟩)))
theorem WtO.n2 {F : Nat → Nat → Int32} {V : Nat → Prop} {wt dp pd : Nat → Nat} {n k la h r c : Nat} {lin : Prop} (hk : k = 2 ∨ k = 3) (hl : lin) (hr : 1 ≤ r) (hla : la < 12) (hc : KidL F V dp pd n 32 0 c) : WtO F V wt dp pd n k 2 la h h r lin :=
  Or.inr (Or.inr (Or.inr (Or.inr (Or.inl ⟨hk, rfl, rfl, hl, hr, hla, c, hc⟩))))
/-- a name: what is known of it by its stages -/
theorem TopO.name {F : Nat → Nat → Int32} {V : Nat → Prop} {wt dp pd : Nat → Nat} {n k s la h p r pl : Nat} (t : TopO F V wt dp pd n k s la h p r) (hk : k = 2 ∨ k = 3) (h31 : ∀ c, KidL F V dp pd n 31 0 c → 1 ≤ pl) (h32 : ∀ c, KidL F V dp pd n 32 0 c → pl = 2) : (s = 0 ∧ p = h ∧ wt n ≤ r) ∨ (s = 1 ∧ p = h + 1 ∧ 1 ≤ pl) ∨ (s = 2 ∧ p = h + 1 ∧ pl = 2 ∧ la < 12) := by
  rcases t with ⟨h1, h2, h3⟩ | ⟨h1, _⟩ | ⟨hn, h1, h2⟩ | h1
  · exact Or.inl ⟨h1, h2, h3⟩
  · omega
  · rcases h1 with h1 | h1 | h1 | h1 | h1 | h1 | h1 | h1 | h1 | h1 | h1 | h1
    · omega
    · omega
    · omega
    · obtain ⟨_, a1, a2, _, _, ⟨d, hd⟩, _⟩ := h1
      exact Or.inr (Or.inl ⟨a1, by omega, h31 d hd⟩)
    · obtain ⟨_, a1, a2, _, _, a3, d, hd⟩ := h1
      exact Or.inr (Or.inr ⟨a1, by omega, h32 d hd, a3⟩)
    · omega
    · omega
    · omega
    · omega
    · omega
    · omega
    · omega
  · exfalso
    rcases h1 with h1 | h1 | h1 | h1 | h1 | h1 | h1 | h1 | h1 | h1 | h1 | h1
    · omega
    · omega
    · omega
    · exact h1.2.2.2.1
    · exact h1.2.2.2.1
    · omega
    · omega
    · omega
    · omega
    · omega
    · omega
    · omega
theorem TopO.name1 {F : Nat → Nat → Int32} {V : Nat → Prop} {wt dp pd : Nat → Nat} {n k la h p r c : Nat} (t : TopO F V wt dp pd n k 1 la h p r) (hk : k = 2 ∨ k = 3) (hc : KidL F V dp pd n 32 0 c) : wt c + 2 ≤ r := by
  rcases t with ⟨h1, h2, h3⟩ | ⟨h1, _⟩ | ⟨hn, h1, h2⟩ | h1
  · omega
  · omega
  · rcases h1 with h1 | h1 | h1 | h1 | h1 | h1 | h1 | h1 | h1 | h1 | h1 | h1
    · omega
    · omega
    · omega
    · exact h1.2.2.2.2.2.2 c hc
    · omega
    · omega
    · omega
    · omega
    · omega
    · omega
    · omega
    · omega
  · rcases h1 with h1 | h1 | h1 | h1 | h1 | h1 | h1 | h1 | h1 | h1 | h1 | h1
    · omega
    · omega
    · omega
    · exact h1.2.2.2.2.2.2 c hc
    · omega
    · omega
    · omega
    · omega
    · omega
    · omega
    · omega
    · omega
/-- the table of numbers -/
def PtO (f22 f23 : Nat → Int32) : Prop := ∀ q, q < 6400 → -2000000 ≤ (f22 q).toInt ∧ (f22 q).toInt ≤ 2000000 ∧ 1 ≤ (f23 q).toInt ∧ (f23 q).toInt ≤ 2000000
theorem RowU.top {f g : Nat → Int32} {u i : Nat} {x : Int32} (hi : i < 2 ^ 31) (h : RowU f g u) (hx : -2000000 ≤ (x).toInt ∧ (x).toInt ≤ 2000000) : RowU (upd f (nI i).toNatClampNeg x) g u := fun q hq => by
  have h9 := h q hq
  rw [upd_at hi]
  split
  · exact ⟨hx.1, hx.2, h9.2.2⟩
  · exact h9
theorem RowU.under {f g : Nat → Int32} {u i : Nat} {x : Int32} (hi : i < 2 ^ 31) (h : RowU f g u) (hx : 1 ≤ (x).toInt ∧ (x).toInt ≤ 2000000) : RowU f (upd g (nI i).toNatClampNeg x) u := fun q hq => by
  have h9 := h q hq
  rw [upd_at hi]
  split
  · exact ⟨h9.1, h9.2.1, hx.1, hx.2⟩
  · exact h9
theorem RowU.nought {f g f2 g2 : Nat → Int32} {v u : Nat} (h0 : ∀ q, q < 9 → f2 (9 * v + q) = 0) (h1 : ∀ q, q < 9 → g2 (9 * v + q) = 1) (hf : ∀ q, q < 9 * v → f2 q = f q) (hg : ∀ q, q < 9 * v → g2 q = g q) (h : ∀ w, w < v → RowU f g w) (hu : u ≤ v) : RowU f2 g2 u := fun q hq => by
  by_cases e : u = v
  · subst e
    rw [h0 q hq, h1 q hq]
    decide
  · have h9 := h u (by omega) q hq
    rw [hf _ (by omega), hg _ (by omega)]
    exact h9
/-- facts that the number work need not split: the places of a name, where its values lie, the weight of its parts -/
def PlK (se pl o1 o2 : Nat) : Prop := (1 ≤ pl → o1 < se) ∧ (pl = 2 → o2 < se)
def WnK (F : Nat → Nat → Int32) (V : Nat → Prop) (wt dp pd : Nat → Nat) (n pl d : Nat) : Prop := pl = 0 ∨ (wt d + 4 ≤ wt n ∧ ∀ c, KidL F V dp pd n 32 0 c → wt c + wt d + 4 ≤ wt n)
def Kd23 (k : Nat) : Prop := k = 2 ∨ k = 3
