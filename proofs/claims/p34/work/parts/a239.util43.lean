theorem StpO.push' {F : Nat → Nat → Int32} {V : Nat → Prop} {wt dp pd : Nat → Nat} {n k f fr h r p2 : Nat} {f52 f53 f54 g54 : Nat → Int32} {v cv : Int32} (c s' la' r' : Nat) (hv : v = nI s') (hcv : cv = nI c) (hf : f < 4299) (hfr : fr = f + 1) (h54 : ∀ q, q < f → g54 q = f54 q) (hla : k = 2 ∨ k = 3 ∨ k = 9 → g54 f = nI la') (hV : V c) (hd : dp c < dp n) (hp : p2 + pd c ≤ h + pd n) (hw : WtO F V wt dp pd n k s' la' h p2 r' ((F 29 c).toInt ≤ 9)) (hr : r' + wt c < r) :
    StpO F V wt dp pd n k f h r f52 f53 f54 (upd f52 (nI fr).toNatClampNeg cv) (upd (upd f53 (nI f).toNatClampNeg v) (nI fr).toNatClampNeg 0) g54 (fr + 1) p2 := by
  subst hv
  subst hcv
  exact StpO.push s' la' r' hf hfr h54 hla hV hd hp hw hr
theorem StpO.stay' {F : Nat → Nat → Int32} {V : Nat → Prop} {wt dp pd : Nat → Nat} {n k f fr h r p2 : Nat} {f52 f53 f54 g54 : Nat → Int32} {v : Int32} (s' la' r' : Nat) (hv : v = nI s') (hf : f < 4299) (hfr : fr = f + 1) (h54 : ∀ q, q < f → g54 q = f54 q) (hla : k = 2 ∨ k = 3 ∨ k = 9 → g54 f = nI la') (ht : TopO F V wt dp pd n k s' la' h p2 r') (hr : r' < r) :
    StpO F V wt dp pd n k f h r f52 f53 f54 f52 (upd f53 (nI f).toNatClampNeg v) g54 fr p2 := by
  subst hv
  exact StpO.stay s' la' r' hf hfr h54 hla ht hr
theorem StpO.pop0 {F : Nat → Nat → Int32} {V : Nat → Prop} {wt dp pd : Nat → Nat} {n k f fr h r p2 : Nat} {f52 f53 f54 : Nat → Int32} (hfr : fr = f + 1) (hp : p2 = h + (if k ≤ 9 then 1 else 0)) :
    StpO F V wt dp pd n k f h r f52 f53 f54 f52 f53 f54 (fr - 1) p2 := by
  subst hfr
  exact ⟨fun q hq => ⟨rfl, rfl, rfl⟩, Or.inl ⟨rfl, hp⟩⟩
theorem sum_step {m l W : Nat} (h : l < m) : (m - l) * W = (m - (l + 1)) * W + W := by
  rw [← Nat.succ_mul]
  congr 1
  omega
/-- what a sum knows when its turn comes, for the body c0 -/
theorem TopO.s0 {F : Nat → Nat → Int32} {V : Nat → Prop} {wt dp pd : Nat → Nat} {n la h p r : Nat} (t : TopO F V wt dp pd n 9 0 la h p r) : wt n ≤ r := by
  rcases t.sum rfl with h9 | h9 | h9 | h9
  · exact h9.2.2
  · exact absurd h9.1 (by decide)
  · exact absurd h9.1 (by decide)
  · exact absurd h9.1 (by decide)
theorem TopO.s1 {F : Nat → Nat → Int32} {V : Nat → Prop} {wt dp pd : Nat → Nat} {n la h p r c0 : Nat} (t : TopO F V wt dp pd n 9 1 la h p r) (hc : KidL F V dp pd n 32 1 c0) : ∃ W, SumW F V wt dp pd n c0 W ∧ (mbO F n - la) * W + 1 ≤ r := by
  rcases t.sum rfl with h9 | h9 | h9 | h9
  · exact absurd h9.1 (by decide)
  · obtain ⟨_, _, _, c, W, h1, h2⟩ := h9
    obtain rfl : c = c0 := kidE h1.1.1 hc.1
    exact ⟨W, h1, h2⟩
  · exact absurd h9.1 (by decide)
  · exact absurd h9.1 (by decide)
theorem TopO.s2 {F : Nat → Nat → Int32} {V : Nat → Prop} {wt dp pd : Nat → Nat} {n la h p r c0 : Nat} (t : TopO F V wt dp pd n 9 2 la h p r) (hc : KidL F V dp pd n 32 1 c0) : ∃ W, SumW F V wt dp pd n c0 W ∧ (mbO F n - (la + 1)) * W + wt c0 + 5 ≤ r := by
  rcases t.sum rfl with h9 | h9 | h9 | h9
  · exact absurd h9.1 (by decide)
  · exact absurd h9.1 (by decide)
  · obtain ⟨_, _, _, c, W, h1, h2⟩ := h9
    obtain rfl : c = c0 := kidE h1.1.1 hc.1
    exact ⟨W, h1, h2⟩
  · exact absurd h9.1 (by decide)
theorem TopO.s3 {F : Nat → Nat → Int32} {V : Nat → Prop} {wt dp pd : Nat → Nat} {n la h p r c0 : Nat} (t : TopO F V wt dp pd n 9 3 la h p r) (hc : KidL F V dp pd n 32 1 c0) : ∃ W, SumW F V wt dp pd n c0 W ∧ (mbO F n - (la + 1)) * W + 3 ≤ r := by
  rcases t.sum rfl with h9 | h9 | h9 | h9
  · exact absurd h9.1 (by decide)
  · exact absurd h9.1 (by decide)
  · exact absurd h9.1 (by decide)
  · obtain ⟨_, _, _, c, W, h1, h2⟩ := h9
    obtain rfl : c = c0 := kidE h1.1.1 hc.1
    exact ⟨W, h1, h2⟩
/-- the next turn of a sum, at stage 1 -/
theorem TopO.next {F : Nat → Nat → Int32} {V : Nat → Prop} {wt dp pd : Nat → Nat} {n la h p r c W : Nat} (hp : p = h + 1) (hl : la ≤ mbO F n) (hW : SumW F V wt dp pd n c W) (hr : (mbO F n - la) * W + 1 ≤ r) : TopO F V wt dp pd n 9 1 la h p r :=
  Or.inr (Or.inl ⟨rfl, rfl, hp, hl, c, W, hW, hr⟩)
/-- a sum that waits for its test, for its body -/
theorem WtO.s2 {F : Nat → Nat → Int32} {V : Nat → Prop} {wt dp pd : Nat → Nat} {n la h p r c W : Nat} {lin : Prop} (hp : p = h + 1) (hn : ¬ lin) (hl : la < mbO F n) (hW : SumW F V wt dp pd n c W) (hr : (mbO F n - (la + 1)) * W + wt c + 5 ≤ r) : WtO F V wt dp pd n 9 2 la h p r lin :=
  Or.inr (Or.inr (Or.inr (Or.inr (Or.inr (Or.inl ⟨rfl, rfl, hp, hn, hl, c, W, hW, hr⟩)))))
theorem WtO.s3 {F : Nat → Nat → Int32} {V : Nat → Prop} {wt dp pd : Nat → Nat} {n la h p r c W : Nat} {lin : Prop} (hp : p = h + 1) (hn : lin) (hl : la < mbO F n) (hW : SumW F V wt dp pd n c W) (hr : (mbO F n - (la + 1)) * W + 3 ≤ r) : WtO F V wt dp pd n 9 3 la h p r lin :=
  Or.inr (Or.inr (Or.inr (Or.inr (Or.inr (Or.inr (Or.inl ⟨rfl, rfl, hp, hn, hl, c, W, hW, hr⟩))))))
