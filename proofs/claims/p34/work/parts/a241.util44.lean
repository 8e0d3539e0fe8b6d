/-- a name: its places pl, their sets o1 o2, where its values lie -/
def NamS (F : Nat → Nat → Int32) (se k a pl o1 o2 aT : Nat) : Prop :=
  ((k = 2 → F 18 a = nI pl) ∧ (k = 3 → F 24 a = nI pl)) ∧ ((k = 2 → F 19 a = nI o1) ∧ (k = 2 → F 20 a = nI o2) ∧ (k = 2 → F 21 a = nI aT) ∧ (k = 3 → F 25 a = nI o1) ∧ (k = 3 → F 26 a = nI o2) ∧ (k = 3 → F 27 a = nI aT)) ∧
  (aT ≤ 6000 ∧ aT + 6000 * k ≤ 18008) ∧ (pl ≤ 2 ∧ o1 < 44 ∧ o2 < 44) ∧ PlK se pl o1 o2 ∧ ((k = 2 → a < (F 1 0).toInt.toNat) ∧ (k = 3 → a < (F 2 0).toInt.toNat)) ∧ MmK F k pl o1 o2 aT
/-- the parts of a name node -/
def NmD (F : Nat → Nat → Int32) (V : Nat → Prop) (wt dp pd : Nat → Nat) (n pl d c : Nat) : Prop :=
  ((pl = 0 ∧ F 31 n = -1) ∨ (1 ≤ pl ∧ KidL F V dp pd n 31 0 d)) ∧ ((pl ≤ 1 ∧ F 32 n = -1) ∨ (pl = 2 ∧ KidL F V dp pd n 32 0 c)) ∧ (pl = 0 ∨ (wt d + 4 ≤ wt n ∧ (pl = 1 ∨ wt c + wt d + 4 ≤ wt n)))
theorem nIm1 {c : Nat} (h : c < 4000) : ¬ nI c = -1 := fun e => by
  have h1 := congrArg Int32.toInt e
  rw [nI_toInt (by omega)] at h1
  have h2 : (-1 : Int32).toInt = -1 := by decide
  omega
theorem NmD.ex {F : Nat → Nat → Int32} {V : Nat → Prop} {wt dp pd : Nat → Nat} {n pl d c : Nat} (h : NmD F V wt dp pd n pl d c) (h2 : pl ≤ 2) :
    ((1 ≤ pl → F 31 n = nI d ∧ KidL F V dp pd n 31 0 d) ∧ (pl = 2 → F 32 n = nI c ∧ KidL F V dp pd n 32 0 c)) ∧ ((∀ c, KidL F V dp pd n 31 0 c → 1 ≤ pl) ∧ (∀ c, KidL F V dp pd n 32 0 c → pl = 2)) ∧ WnK F V wt dp pd n pl d := by
  obtain ⟨h31, h32, hw⟩ := h
  refine ⟨⟨fun q => ?_, fun q => ?_⟩, ⟨fun x hx => ?_, fun x hx => ?_⟩, ?_⟩
  · rcases h31 with h | h
    · omega
    · exact ⟨h.2.1.1, h.2⟩
  · rcases h32 with h | h
    · omega
    · exact ⟨h.2.1.1, h.2⟩
  · rcases h31 with h | h
    · exact absurd (hx.1.1.symm.trans h.2) (nIm1 hx.1.2)
    · exact h.1
  · rcases h32 with h | h
    · exact absurd (hx.1.1.symm.trans h.2) (nIm1 hx.1.2)
    · exact h.1
  · rcases hw with h | ⟨h, h3⟩
    · exact Or.inl h
    · refine Or.inr ⟨h, fun x hx => ?_⟩
      rcases h32 with h4 | h4
      · exact absurd (hx.1.1.symm.trans h4.2) (nIm1 hx.1.2)
      · obtain rfl : x = c := kidE hx.1 h4.2.1
        rcases h3 with h5 | h5
        · omega
        · exact h5
/-- a name node: a its declaration -/
def NamK (F : Nat → Nat → Int32) (V : Nat → Prop) (wt dp pd : Nat → Nat) (se n k a pl o1 o2 aT d c : Nat) : Prop :=
  (F 30 n = nI a ∧ a < 44) ∧ NamS F se k a pl o1 o2 aT ∧ NmD F V wt dp pd n pl d c
/-- a finished node -/
def NdK (F : Nat → Nat → Int32) (V : Nat → Prop) (wt dp pd : Nat → Nat) (se n k : Nat) : Prop :=
  (k = 0 ∧ 1 ≤ pd n ∧ -1000200 ≤ (F 30 n).toInt ∧ (F 30 n).toInt ≤ 1000200) ∨
  (k = 1 ∧ 1 ≤ pd n ∧ ∃ x, x < 60 ∧ F 30 n = nI x) ∨
  ((k = 2 ∨ k = 3) ∧ 1 ≤ pd n ∧ ∃ a pl o1 o2 aT d c, NamK F V wt dp pd se n k a pl o1 o2 aT d c) ∨
  (k = 4 ∧ 1 ≤ pd n ∧ ∃ c, KidL F V dp pd n 30 0 c ∧ wt c + 3 ≤ wt n) ∨
  (((5 ≤ k ∧ k ≤ 8) ∨ k = 13) ∧ 2 ≤ pd n ∧ ∃ c d, KidL F V dp pd n 30 0 c ∧ KidL F V dp pd n 31 1 d ∧ wt c + wt d + 3 ≤ wt n) ∨
  (k = 9 ∧ 2 ≤ pd n ∧ ∃ b c W, F 30 n = nI b ∧ b < 900 ∧ BnO (F 36) (F 37) (F 38) se b ∧ MbO (F 17) (F 36) (F 37) b (mbO F n) ∧ mbO F n ≤ 144 ∧ SumW F V wt dp pd n c W ∧ mbO F n * W + 2 ≤ wt n) ∨
  ((k = 10 ∨ k = 11) ∧ ∃ c d, KidT F V dp pd n 30 0 c ∧ KidT F V dp pd n 31 0 d ∧ wt c + wt d + 3 ≤ wt n) ∨
  (k = 12 ∧ ∃ c, KidT F V dp pd n 30 0 c ∧ wt c + 3 ≤ wt n)
/-- the rows that the worker only reads -/
def SmF (F G : Nat → Nat → Int32) : Prop := F 17 = G 17 ∧ F 18 = G 18 ∧ F 19 = G 19 ∧ F 20 = G 20 ∧ F 21 = G 21 ∧ F 24 = G 24 ∧ F 25 = G 25 ∧ F 26 = G 26 ∧ F 27 = G 27 ∧ F 29 = G 29 ∧ F 30 = G 30 ∧ F 31 = G 31 ∧ F 32 = G 32 ∧ F 36 = G 36 ∧ F 37 = G 37 ∧ F 38 = G 38
