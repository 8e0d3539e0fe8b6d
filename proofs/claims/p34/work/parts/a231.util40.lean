/-- a part of a node: finished, of less height, and what it lays on the pile fits (d: what lies there already) -/
def KidL (F : Nat → Nat → Int32) (V : Nat → Prop) (dp pd : Nat → Nat) (n x d c : Nat) : Prop := (F x n = nI c ∧ c < 4000) ∧ V c ∧ dp c < dp n ∧ pd c + d ≤ pd n ∧ (F 29 c).toInt ≤ 9
def KidT (F : Nat → Nat → Int32) (V : Nat → Prop) (dp pd : Nat → Nat) (n x d c : Nat) : Prop := (F x n = nI c ∧ c < 4000) ∧ V c ∧ dp c < dp n ∧ pd c + d ≤ pd n ∧ ¬ (F 29 c).toInt ≤ 9
theorem kidE {a : Int32} {c d : Nat} (h1 : a = nI c ∧ c < 4000) (h2 : a = nI d ∧ d < 4000) : c = d := by
  have h := congrArg Int32.toInt (h1.1.symm.trans h2.1)
  rw [nI_toInt (by omega), nI_toInt (by omega)] at h
  omega
/-- the members of the node's binding, kept in a row that the program has not -/
def mbO (F : Nat → Nat → Int32) (n : Nat) : Nat := (F 150 n).toInt.toNat
/-- a sum: its body c, and W, the work of one member -/
def SumW (F : Nat → Nat → Int32) (V : Nat → Prop) (wt dp pd : Nat → Nat) (n c W : Nat) : Prop := KidL F V dp pd n 32 1 c ∧ wt c + 5 ≤ W ∧ (F 31 n = -1 ∨ ∃ d, KidT F V dp pd n 31 1 d ∧ wt c + wt d + 8 ≤ W)
/-- the first place's number, while the second is worked out: below the members of the first set (of a param) -/
def LaB (F : Nat → Nat → Int32) (n k la : Nat) : Prop := la < 12 ∧ (k = 2 → ∀ a o : Nat, F 30 n = nI a → a < 44 → F 19 a = nI o → o < 44 → la < (F 17 o).toInt.toNat)
theorem nI_44 {a b : Nat} (e : nI a = nI b) (ha : a < 44) (hb : b < 44) : a = b := by
  have h := congrArg Int32.toInt e
  rw [nI_toInt (by omega), nI_toInt (by omega)] at h
  omega
theorem LaB.mk {F : Nat → Nat → Int32} {n k la a o m : Nat} (h12 : la < 12) (ha : F 30 n = nI a) (ha4 : a < 44) (ho : k = 2 → F 19 a = nI o) (ho4 : o < 44) (hm : F 17 o = nI m) (hm12 : m ≤ 12) (hla : la < m) : LaB F n k la := ⟨h12, fun hk a9 o9 e1 h1 e2 h2 => by
  obtain rfl := nI_44 (e1.symm.trans ha) h1 ha4
  obtain rfl := nI_44 (e2.symm.trans (ho hk)) h2 ho4
  rw [hm, nI_tn (by omega)]; exact hla⟩
theorem LaB.use {F : Nat → Nat → Int32} {n k la a o m : Nat} (h : LaB F n k la) (hk : k = 2) (ha : F 30 n = nI a) (ha4 : a < 44) (ho : k = 2 → F 19 a = nI o) (ho4 : o < 44) (hm : F 17 o = nI m) (hm12 : m ≤ 12) : la < m := by
  have h9 := h.2 hk a o ha ha4 (ho hk) ho4
  rw [hm, nI_tn (by omega)] at h9
  exact h9
/-- a node that waits for one of its parts: k its kind, s its stage, h the pile when it was begun, hn the pile when the part was begun, r the work that is left, lin: the part lays a row on the pile -/
def WtO (F : Nat → Nat → Int32) (V : Nat → Prop) (wt dp pd : Nat → Nat) (n k s la h hn r : Nat) (lin : Prop) : Prop :=
  (k = 4 ∧ s = 1 ∧ hn = h ∧ lin ∧ 1 ≤ r) ∨
  (5 ≤ k ∧ k ≤ 8 ∧ s = 1 ∧ hn = h ∧ lin ∧ ∃ d, KidL F V dp pd n 31 1 d ∧ wt d + 2 ≤ r) ∨
  (5 ≤ k ∧ k ≤ 8 ∧ s = 2 ∧ hn = h + 1 ∧ lin ∧ 1 ≤ r) ∨
  ((k = 2 ∨ k = 3) ∧ s = 1 ∧ hn = h ∧ lin ∧ 1 ≤ r ∧ (∃ d, KidL F V dp pd n 31 0 d) ∧ ∀ c, KidL F V dp pd n 32 0 c → wt c + 2 ≤ r) ∨
  ((k = 2 ∨ k = 3) ∧ s = 2 ∧ hn = h ∧ lin ∧ 1 ≤ r ∧ LaB F n k la ∧ ∃ c, KidL F V dp pd n 32 0 c) ∨
  (k = 9 ∧ s = 2 ∧ hn = h + 1 ∧ ¬ lin ∧ la < mbO F n ∧ ∃ c W, SumW F V wt dp pd n c W ∧ (mbO F n - (la + 1)) * W + wt c + 5 ≤ r) ∨
  (k = 9 ∧ s = 3 ∧ hn = h + 1 ∧ lin ∧ la < mbO F n ∧ ∃ c W, SumW F V wt dp pd n c W ∧ (mbO F n - (la + 1)) * W + 3 ≤ r) ∨
  ((k = 10 ∨ k = 11) ∧ s = 1 ∧ hn = h ∧ ¬ lin ∧ ∃ d, KidT F V dp pd n 31 0 d ∧ wt d + 2 ≤ r) ∨
  ((k = 10 ∨ k = 11) ∧ s = 2 ∧ hn = h ∧ ¬ lin ∧ 1 ≤ r) ∨
  (k = 12 ∧ s = 1 ∧ hn = h ∧ ¬ lin ∧ 1 ≤ r) ∨
  (k = 13 ∧ s = 1 ∧ hn = h ∧ lin ∧ ∃ d, KidL F V dp pd n 31 1 d ∧ wt d + 2 ≤ r) ∨
  (k = 13 ∧ s = 2 ∧ hn = h + 1 ∧ lin ∧ 1 ≤ r)
/-- the uppermost node: begun just now, or its part has come back (p: the pile) -/
def TopO (F : Nat → Nat → Int32) (V : Nat → Prop) (wt dp pd : Nat → Nat) (n k s la h p r : Nat) : Prop :=
  (s = 0 ∧ p = h ∧ wt n ≤ r) ∨ (k = 9 ∧ s = 1 ∧ p = h + 1 ∧ la ≤ mbO F n ∧ ∃ c W, SumW F V wt dp pd n c W ∧ (mbO F n - la) * W + 1 ≤ r) ∨
  (∃ hn, WtO F V wt dp pd n k s la h hn r True ∧ p = hn + 1) ∨ WtO F V wt dp pd n k s la h p r False
/-- one turn of the uppermost node: it ends, or begins a part, or stays (f52 f53 f54: the rows of the frames before it, g52 g53 g54 behind it) -/
def StpO (F : Nat → Nat → Int32) (V : Nat → Prop) (wt dp pd : Nat → Nat) (n k f h r : Nat) (f52 f53 f54 g52 g53 g54 : Nat → Int32) (fr2 p2 : Nat) : Prop :=
  (∀ q, q < f → g52 q = f52 q ∧ g53 q = f53 q ∧ g54 q = f54 q) ∧
  ((fr2 = f ∧ p2 = h + (if k ≤ 9 then 1 else 0)) ∨
   (fr2 = f + 2 ∧ g52 f = f52 f ∧ ∃ c s' la' r' : Nat, g52 (f + 1) = nI c ∧ g53 (f + 1) = 0 ∧ g53 f = nI s' ∧ (k = 2 ∨ k = 3 ∨ k = 9 → g54 f = nI la') ∧ V c ∧ dp c < dp n ∧ p2 + pd c ≤ h + pd n ∧ WtO F V wt dp pd n k s' la' h p2 r' ((F 29 c).toInt ≤ 9) ∧ r' + wt c < r) ∨
   (fr2 = f + 1 ∧ g52 f = f52 f ∧ ∃ s' la' r' : Nat, g53 f = nI s' ∧ (k = 2 ∨ k = 3 ∨ k = 9 → g54 f = nI la') ∧ TopO F V wt dp pd n k s' la' h p2 r' ∧ r' < r))
theorem StpO.push {F : Nat → Nat → Int32} {V : Nat → Prop} {wt dp pd : Nat → Nat} {n k f fr h r p2 c : Nat} {f52 f53 f54 g54 : Nat → Int32} (s' la' r' : Nat) (hf : f < 4299) (hfr : fr = f + 1) (h54 : ∀ q, q < f → g54 q = f54 q) (hla : k = 2 ∨ k = 3 ∨ k = 9 → g54 f = nI la') (hV : V c) (hd : dp c < dp n) (hp : p2 + pd c ≤ h + pd n) (hw : WtO F V wt dp pd n k s' la' h p2 r' ((F 29 c).toInt ≤ 9)) (hr : r' + wt c < r) :
    StpO F V wt dp pd n k f h r f52 f53 f54 (upd f52 (nI fr).toNatClampNeg (nI c)) (upd (upd f53 (nI f).toNatClampNeg (nI s')) (nI fr).toNatClampNeg 0) g54 (fr + 1) p2 := by
  subst hfr
  exact ⟨fun q hq => ⟨by rw [upd_at (by omega), if_neg (by omega)], by rw [upd_at (by omega), if_neg (by omega), upd_at (by omega), if_neg (by omega)], h54 q hq⟩,
   Or.inr (Or.inl ⟨rfl, by rw [upd_at (by omega), if_neg (by omega)], c, s', la', r', by rw [upd_at (by omega), if_pos rfl], by rw [upd_at (by omega), if_pos rfl], by rw [upd_at (by omega), if_neg (by omega), upd_at (by omega), if_pos rfl], hla, hV, hd, hp, hw, hr⟩)⟩
theorem StpO.pop {F : Nat → Nat → Int32} {V : Nat → Prop} {wt dp pd : Nat → Nat} {n k f fr h r p2 : Nat} {v : Int32} {f52 f53 f54 g54 : Nat → Int32} (hf : f < 4299) (hfr : fr = f + 1) (h54 : ∀ q, q < f → g54 q = f54 q) (hp : p2 = h + (if k ≤ 9 then 1 else 0)) :
    StpO F V wt dp pd n k f h r f52 f53 f54 f52 (upd f53 (nI f).toNatClampNeg v) g54 (fr - 1) p2 := by
  subst hfr
  exact ⟨fun q hq => ⟨rfl, by rw [upd_at (by omega), if_neg (by omega)], h54 q hq⟩, Or.inl ⟨rfl, hp⟩⟩
/-- a waiting and, or -/
theorem WtO.j1 {F : Nat → Nat → Int32} {V : Nat → Prop} {wt dp pd : Nat → Nat} {n k la h r d : Nat} {lin : Prop} (hk : k = 10 ∨ k = 11) (hl : ¬ lin) (hd : KidT F V dp pd n 31 0 d) (hr : wt d + 2 ≤ r) : WtO F V wt dp pd n k 1 la h h r lin :=
  Or.inr (Or.inr (Or.inr (Or.inr (Or.inr (Or.inr (Or.inr (Or.inl ⟨hk, rfl, rfl, hl, d, hd, hr⟩)))))))
theorem WtO.j2 {F : Nat → Nat → Int32} {V : Nat → Prop} {wt dp pd : Nat → Nat} {n k la h r : Nat} {lin : Prop} (hk : k = 10 ∨ k = 11) (hl : ¬ lin) (hr : 1 ≤ r) : WtO F V wt dp pd n k 2 la h h r lin :=
  Or.inr (Or.inr (Or.inr (Or.inr (Or.inr (Or.inr (Or.inr (Or.inr (Or.inl ⟨hk, rfl, rfl, hl, hr⟩))))))))
/-- a waiting pair or compare -/
theorem WtO.p1 {F : Nat → Nat → Int32} {V : Nat → Prop} {wt dp pd : Nat → Nat} {n k la h r d : Nat} {lin : Prop} (hk : (5 ≤ k ∧ k ≤ 8) ∨ k = 13) (hl : lin) (hd : KidL F V dp pd n 31 1 d) (hr : wt d + 2 ≤ r) : WtO F V wt dp pd n k 1 la h h r lin := by
  rcases hk with hk | hk
  · exact Or.inr (Or.inl ⟨hk.1, hk.2, rfl, rfl, hl, d, hd, hr⟩)
  · exact Or.inr (Or.inr (Or.inr (Or.inr (Or.inr (Or.inr (Or.inr (Or.inr (Or.inr (Or.inr (Or.inl ⟨hk, rfl, rfl, hl, d, hd, hr⟩))))))))))
theorem WtO.p2 {F : Nat → Nat → Int32} {V : Nat → Prop} {wt dp pd : Nat → Nat} {n k la h r : Nat} {lin : Prop} (hk : (5 ≤ k ∧ k ≤ 8) ∨ k = 13) (hl : lin) (hr : 1 ≤ r) : WtO F V wt dp pd n k 2 la h (h + 1) r lin := by
  rcases hk with hk | hk
  · exact Or.inr (Or.inr (Or.inl ⟨hk.1, hk.2, rfl, rfl, hl, hr⟩))
  · exact Or.inr (Or.inr (Or.inr (Or.inr (Or.inr (Or.inr (Or.inr (Or.inr (Or.inr (Or.inr (Or.inr ⟨hk, rfl, rfl, hl, hr⟩))))))))))
/-- and, or: what is known of them by their stages -/
theorem TopO.join {F : Nat → Nat → Int32} {V : Nat → Prop} {wt dp pd : Nat → Nat} {n k s la h p r d : Nat} (t : TopO F V wt dp pd n k s la h p r) (hk : k = 10 ∨ k = 11) (hd : KidT F V dp pd n 31 0 d) : p = h ∧ ((s = 0 ∧ wt n ≤ r) ∨ (s = 1 ∧ wt d + 2 ≤ r) ∨ (s = 2 ∧ 1 ≤ r)) := by
  rcases t with ⟨h1, h2, h3⟩ | ⟨h1, _⟩ | ⟨hn, h1, h2⟩ | h1
  · exact ⟨h2, Or.inl ⟨h1, h3⟩⟩
  · omega
  · exfalso
    rcases h1 with h1 | h1 | h1 | h1 | h1 | h1 | h1 | h1 | h1 | h1 | h1 | h1
    · omega
    · omega
    · omega
    · omega
    · omega
    · omega
    · omega
    · exact h1.2.2.2.1 trivial
    · exact h1.2.2.2.1 trivial
    · omega
    · omega
    · omega
  · rcases h1 with h1 | h1 | h1 | h1 | h1 | h1 | h1 | h1 | h1 | h1 | h1 | h1
    · omega
    · omega
    · omega
    · omega
    · omega
    · omega
    · omega
    · obtain ⟨d9, h8, h9⟩ := h1.2.2.2.2
      obtain rfl : d9 = d := kidE h8.1 hd.1
      exact ⟨h1.2.2.1, Or.inr (Or.inl ⟨h1.2.1, h9⟩)⟩
    · exact ⟨h1.2.2.1, Or.inr (Or.inr ⟨h1.2.1, h1.2.2.2.2⟩)⟩
    · omega
    · omega
    · omega
/-- pairs and compares -/
theorem TopO.pair {F : Nat → Nat → Int32} {V : Nat → Prop} {wt dp pd : Nat → Nat} {n k s la h p r d : Nat} (t : TopO F V wt dp pd n k s la h p r) (hk : (5 ≤ k ∧ k ≤ 8) ∨ k = 13) (hd : KidL F V dp pd n 31 1 d) : (s = 0 ∧ p = h ∧ wt n ≤ r) ∨ (s = 1 ∧ p = h + 1 ∧ wt d + 2 ≤ r) ∨ (s = 2 ∧ p = h + 2 ∧ 1 ≤ r) := by
  rcases t with ⟨h1, h2, h3⟩ | ⟨h1, _⟩ | ⟨hn, h1, h2⟩ | h1
  · exact Or.inl ⟨h1, h2, h3⟩
  · omega
  · rcases h1 with h1 | h1 | h1 | h1 | h1 | h1 | h1 | h1 | h1 | h1 | h1 | h1
    · omega
    · obtain ⟨d9, h8, h9⟩ := h1.2.2.2.2.2
      obtain rfl : d9 = d := kidE h8.1 hd.1
      exact Or.inr (Or.inl ⟨h1.2.2.1, by (have h7 := h1.2.2.2.1); omega, h9⟩)
    · exact Or.inr (Or.inr ⟨h1.2.2.1, by omega, h1.2.2.2.2.2⟩)
    · omega
    · omega
    · omega
    · omega
    · omega
    · omega
    · omega
    · obtain ⟨d9, h8, h9⟩ := h1.2.2.2.2
      obtain rfl : d9 = d := kidE h8.1 hd.1
      exact Or.inr (Or.inl ⟨h1.2.1, by (have h7 := h1.2.2.1); omega, h9⟩)
    · exact Or.inr (Or.inr ⟨h1.2.1, by omega, h1.2.2.2.2⟩)
  · exfalso
    rcases h1 with h1 | h1 | h1 | h1 | h1 | h1 | h1 | h1 | h1 | h1 | h1 | h1
    · omega
    · exact h1.2.2.2.2.1
    · exact h1.2.2.2.2.1
    · omega
    · omega
    · omega
    · omega
    · omega
    · omega
    · omega
    · exact h1.2.2.2.1
    · exact h1.2.2.2.1
