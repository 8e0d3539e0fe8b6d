theorem WtO.n1 {F : Nat → Nat → Int32} {V : Nat → Prop} {wt dp pd : Nat → Nat} {n k la h r d : Nat} {lin : Prop} (hk : k = 2 ∨ k = 3) (hl : lin) (hr : 1 ≤ r) (hd : KidL F V dp pd n 31 0 d) (hc : ∀ c, KidL F V dp pd n 32 0 c → wt c + 2 ≤ r) : WtO F V wt dp pd n k 1 la h h r lin :=
  Or.inr (Or.inr (Or.inr (Or.inl ⟨hk, rfl, rfl, hl, hr, ⟨d, hd⟩, hc⟩)))
theorem WtO.n2 {F : Nat → Nat → Int32} {V : Nat → Prop} {wt dp pd : Nat → Nat} {n k la h r c : Nat} {lin : Prop} (hk : k = 2 ∨ k = 3) (hl : lin) (hr : 1 ≤ r) (hla : LaB F n k la) (hc : KidL F V dp pd n 32 0 c) : WtO F V wt dp pd n k 2 la h h r lin :=
  Or.inr (Or.inr (Or.inr (Or.inr (Or.inl ⟨hk, rfl, rfl, hl, hr, hla, c, hc⟩))))
/-- a name: what is known of it by its stages -/
theorem TopO.name {F : Nat → Nat → Int32} {V : Nat → Prop} {wt dp pd : Nat → Nat} {n k s la h p r pl : Nat} (t : TopO F V wt dp pd n k s la h p r) (hk : k = 2 ∨ k = 3) (h31 : ∀ c, KidL F V dp pd n 31 0 c → 1 ≤ pl) (h32 : ∀ c, KidL F V dp pd n 32 0 c → pl = 2) : (s = 0 ∧ p = h ∧ wt n ≤ r) ∨ (s = 1 ∧ p = h + 1 ∧ 1 ≤ pl) ∨ (s = 2 ∧ p = h + 1 ∧ pl = 2 ∧ la < 12) := by
  rcases t with ⟨h1, h2, h3⟩ | ⟨h1, _⟩ | ⟨hn, h1, h2⟩ | h1
  · exact Or.inl ⟨h1, h2, h3⟩
  · omega
  · rcases h1 with h1 | h1 | h1 | h1 | h1 | h1 | h1 | h1 | h1 | h1 | h1 | h1
    · omega
    · omega
    · omega
    · obtain ⟨_, a1, a2, _, _, ⟨d, hd⟩, _⟩ := h1
      exact Or.inr (Or.inl ⟨a1, by omega, h31 d hd⟩)
    · obtain ⟨_, a1, a2, _, _, a3, d, hd⟩ := h1
      exact Or.inr (Or.inr ⟨a1, by omega, h32 d hd, a3.1⟩)
    · omega
    · omega
    · omega
    · omega
    · omega
    · omega
    · omega
  · exfalso
    rcases h1 with h1 | h1 | h1 | h1 | h1 | h1 | h1 | h1 | h1 | h1 | h1 | h1
    · omega
    · omega
    · omega
    · exact h1.2.2.2.1
    · exact h1.2.2.2.1
    · omega
    · omega
    · omega
    · omega
    · omega
    · omega
    · omega
theorem TopO.nameB {F : Nat → Nat → Int32} {V : Nat → Prop} {wt dp pd : Nat → Nat} {n k s la h p r : Nat} (t : TopO F V wt dp pd n k s la h p r) (hk : k = 2 ∨ k = 3) (hs : s = 2) : LaB F n k la := by
  rcases t with ⟨h1, h2, h3⟩ | ⟨h1, _⟩ | ⟨hn, h1, h2⟩ | h1
  · omega
  · omega
  · rcases h1 with h1 | h1 | h1 | h1 | h1 | h1 | h1 | h1 | h1 | h1 | h1 | h1
    · omega
    · omega
    · omega
    · omega
    · exact h1.2.2.2.2.2.1
    · omega
    · omega
    · omega
    · omega
    · omega
    · omega
    · omega
  · exfalso
    rcases h1 with h1 | h1 | h1 | h1 | h1 | h1 | h1 | h1 | h1 | h1 | h1 | h1
    · omega
    · omega
    · omega
    · exact h1.2.2.2.1
    · exact h1.2.2.2.1
    · omega
    · omega
    · omega
    · omega
    · omega
    · omega
    · omega
theorem TopO.name1 {F : Nat → Nat → Int32} {V : Nat → Prop} {wt dp pd : Nat → Nat} {n k la h p r c : Nat} (t : TopO F V wt dp pd n k 1 la h p r) (hk : k = 2 ∨ k = 3) (hc : KidL F V dp pd n 32 0 c) : wt c + 2 ≤ r := by
  rcases t with ⟨h1, h2, h3⟩ | ⟨h1, _⟩ | ⟨hn, h1, h2⟩ | h1
  · omega
  · omega
  · rcases h1 with h1 | h1 | h1 | h1 | h1 | h1 | h1 | h1 | h1 | h1 | h1 | h1
    · omega
    · omega
    · omega
    · exact h1.2.2.2.2.2.2 c hc
    · omega
    · omega
    · omega
    · omega
    · omega
    · omega
    · omega
    · omega
  · rcases h1 with h1 | h1 | h1 | h1 | h1 | h1 | h1 | h1 | h1 | h1 | h1 | h1
    · omega
    · omega
    · omega
    · exact h1.2.2.2.2.2.2 c hc
    · omega
    · omega
    · omega
    · omega
    · omega
    · omega
    · omega
    · omega
/-- the table of numbers -/
def PtO (f22 f23 : Nat → Int32) (n : Nat) : Prop := ∀ q, q < n → -2000000 ≤ (f22 q).toInt ∧ (f22 q).toInt ≤ 2000000 ∧ 1 ≤ (f23 q).toInt ∧ (f23 q).toInt ≤ 2000000
theorem RowU.top {f g : Nat → Int32} {u i : Nat} {x : Int32} (hi : i < 2 ^ 31) (h : RowU f g u) (hx : -2000000 ≤ (x).toInt ∧ (x).toInt ≤ 2000000) : RowU (upd f (nI i).toNatClampNeg x) g u := fun q hq => by
  have h9 := h q hq
  rw [upd_at hi]
  split
  · exact ⟨hx.1, hx.2, h9.2.2⟩
  · exact h9
theorem RowU.under {f g : Nat → Int32} {u i : Nat} {x : Int32} (hi : i < 2 ^ 31) (h : RowU f g u) (hx : 1 ≤ (x).toInt ∧ (x).toInt ≤ 2000000) : RowU f (upd g (nI i).toNatClampNeg x) u := fun q hq => by
  have h9 := h q hq
  rw [upd_at hi]
  split
  · exact ⟨h9.1, h9.2.1, hx.1, hx.2⟩
  · exact h9
theorem RowU.nought {f g f2 g2 : Nat → Int32} {v u : Nat} (h0 : ∀ q, q < 9 → f2 (9 * v + q) = 0) (h1 : ∀ q, q < 9 → g2 (9 * v + q) = 1) (hf : ∀ q, q < 9 * v → f2 q = f q) (hg : ∀ q, q < 9 * v → g2 q = g q) (h : ∀ w, w < v → RowU f g w) (hu : u ≤ v) : RowU f2 g2 u := fun q hq => by
  by_cases e : u = v
  · subst e
    rw [h0 q hq, h1 q hq]
    decide
  · have h9 := h u (by omega) q hq
    rw [hf _ (by omega), hg _ (by omega)]
    exact h9
/-- facts that the number work need not split: the places of a name, where its values lie, the weight of its parts -/
def PlK (se pl o1 o2 : Nat) : Prop := (1 ≤ pl → o1 < se) ∧ (pl = 2 → o2 < se)
def WnK (F : Nat → Nat → Int32) (V : Nat → Prop) (wt dp pd : Nat → Nat) (n pl d : Nat) : Prop := pl = 0 ∨ (wt d + 4 ≤ wt n ∧ ∀ c, KidL F V dp pd n 32 0 c → wt c + wt d + 4 ≤ wt n)
def Kd23 (k : Nat) : Prop := k = 2 ∨ k = 3
/-- how many numbers are kept -/
def nuF (F : Nat → Nat → Int32) : Nat := (F 3 0).toInt.toNat
def MmK (F : Nat → Nat → Int32) (k pl o1 o2 aT : Nat) : Prop := k = 2 → aT + memN (F 17) pl o1 o2 ≤ nuF F
def LmK (F : Nat → Nat → Int32) (k pl o1 o2 l : Nat) : Prop := k = 2 → l < memN (F 17) pl o1 o2
theorem LmK.l0 {F : Nat → Nat → Int32} {k pl o1 o2 : Nat} (h : pl = 0) : LmK F k pl o1 o2 0 := fun _ => by
  have e : 1 = memN (F 17) pl o1 o2 := MemP.m0 h
  omega
theorem LmK.l1 {F : Nat → Nat → Int32} {f17 : Nat → Int32} {k pl o1 o2 m l : Nat} (e17 : F 17 = f17) (h : pl = 1) (e : f17 o1 = nI m) (hm : m ≤ 12) (hl : l < m) : LmK F k pl o1 o2 l := fun _ => by
  have e9 : m = memN (F 17) pl o1 o2 := MemP.m1 h (by rw [e17]; exact e) hm
  omega
theorem LmK.l2 {F : Nat → Nat → Int32} {f17 : Nat → Int32} {k pl o1 o2 m n la l : Nat} (e17 : F 17 = f17) (h : pl = 2) (e : f17 o1 = nI m) (hm : m ≤ 12) (e2 : f17 o2 = nI n) (hn : n ≤ 12) (hla : k = 2 → la < m) (hl : l < n) : LmK F k pl o1 o2 (la * n + l) := fun hk => by
  have e9 : m * n = memN (F 17) pl o1 o2 := MemP.m2 h (by rw [e17]; exact e) hm (by rw [e17]; exact e2) hn
  have h9 : (la + 1) * n ≤ m * n := Nat.mul_le_mul_right n (hla hk)
  rw [Nat.succ_mul] at h9
  omega
theorem PtO.mono {f g : Nat → Int32} {n k : Nat} (h : PtO f g n) (hk : k ≤ n) : PtO f g k := fun q hq => h q (Nat.lt_of_lt_of_le hq hk)
theorem PtO.z {f g : Nat → Int32} : PtO f g 0 := fun q hq => absurd hq (Nat.not_lt_zero q)
theorem PtO.nu {f g : Nat → Int32} {F : Nat → Nat → Int32} {n k : Nat} (h : PtO f g n) (e : F 3 0 = nI k) (hk : k ≤ n) (h6 : k ≤ 6400) : PtO f g (nuF F) := h.mono (by unfold nuF; rw [e, nI_tn (by omega)]; exact hk)
theorem PtO.name {f g : Nat → Int32} {F : Nat → Nat → Int32} {k pl o1 o2 aT l : Nat} (h : PtO f g (nuF F)) (hm : MmK F k pl o1 o2 aT) (hl : LmK F k pl o1 o2 l) (hk : k = 2) : -2000000 ≤ (f (aT + l)).toInt ∧ (f (aT + l)).toInt ≤ 2000000 ∧ 1 ≤ (g (aT + l)).toInt ∧ (g (aT + l)).toInt ≤ 2000000 := h _ (Nat.lt_of_lt_of_le (Nat.add_lt_add_left (hl hk) aT) (hm hk))
