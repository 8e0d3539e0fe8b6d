theorem RTp.one0 {T : Nat → Nat → Int32} {G : RG} {f29 f30 f31 f32 f36 f37 f38 f40 f41 f42 : Nat → Int32} {wd sg res : Int32} {se bs i w u ex gl gm p1 n1 m1 tw : Nat} (h : RTp T G f29 f30 f31 f32 f36 f37 f38 f40 f41 f42 wd sg res se bs i 3 w u ex gl gm p1 n1 m1 tw) (e : f40 i = 0) : f41 i = -1 ∧ f42 i = -1 ∧ p1 = 0 ∧ n1 = 0 ∧ m1 = 0 ∧ gm = gl ∧ ex ≤ 1 ∧ (wd = 2 → sg = 10 → ex = 1) ∧ tw = 5 := by
  rcases h with ⟨h1, h2, h3, ⟨a1, a2, a3, a4⟩, ⟨a6, a5⟩, a7, h4⟩ | ⟨h1, ck, ⟨⟨b0, b1, b3, b2⟩, h2⟩, c, h3, h4⟩
  · exact ⟨h2, h3, a1, a2, a3, a4, a6, a7 rfl, by omega⟩
  · rcases h2 with h | h | h | h | h | h | h | h | h | h | h | h
    · exact absurd h.1 (by decide)
    · exact absurd h.1 (by decide)
    · exact absurd h.1 (by decide)
    · exact absurd h.1 (by decide)
    · exact absurd h.1 (by decide)
    · exact absurd h.1 (by decide)
    · exact absurd h.1 (by decide)
    · exact absurd h.1 (by decide)
    · exact absurd (e.symm.trans h.2.2.1) (by decide)
    · exact absurd (e.symm.trans h.2.2.1) (by decide)
    · exact absurd (e.symm.trans h.2.2.1) (by decide)
    · exact absurd (e.symm.trans h.2.2.1) (by decide)
theorem RTp.one1 {T : Nat → Nat → Int32} {G : RG} {f29 f30 f31 f32 f36 f37 f38 f40 f41 f42 : Nat → Int32} {wd sg res : Int32} {se bs i w u ex gl gm p1 n1 m1 tw : Nat} (h : RTp T G f29 f30 f31 f32 f36 f37 f38 f40 f41 f42 wd sg res se bs i 3 w u ex gl gm p1 n1 m1 tw) (e : f40 i = 1) : p1 = 1 ∧ n1 = 0 ∧ m1 = 0 ∧ gl ≤ gm ∧ ex = 1 ∧ tw = 1 ∧ ∃ c, res = nI c ∧ TruO G f29 c (51 - 2 * w) := by
  rcases h with ⟨h1, h2, h3, ⟨a1, a2, a3, a4⟩, ⟨a6, a5⟩, a7, h4⟩ | ⟨h1, ck, ⟨⟨b0, b1, b3, b2⟩, h2⟩, c, h3, h4⟩
  · exact absurd (e.symm.trans h1) (by decide)
  · rcases h2 with h | h | h | h | h | h | h | h | h | h | h | h
    · exact absurd h.1 (by decide)
    · exact absurd h.1 (by decide)
    · exact absurd h.1 (by decide)
    · exact absurd h.1 (by decide)
    · exact absurd h.1 (by decide)
    · exact absurd h.1 (by decide)
    · exact absurd h.1 (by decide)
    · exact absurd h.1 (by decide)
    · (rcases h4 with h4 | h4 | h4); (exact absurd (h.2.1 ▸ h4.1) (by decide)); (exact absurd (h.2.1.symm.trans h4.1) (by decide)); (exact ⟨h.2.2.2.2.2, h.2.2.2.1, h.2.2.2.2.1, b2, b3 h.2.1, h1, c, h3, h4.2.2⟩)
    · exact absurd (e.symm.trans h.2.2.1) (by decide)
    · exact absurd (e.symm.trans h.2.2.1) (by decide)
    · exact absurd (e.symm.trans h.2.2.1) (by decide)
theorem RTp.one2 {T : Nat → Nat → Int32} {G : RG} {f29 f30 f31 f32 f36 f37 f38 f40 f41 f42 : Nat → Int32} {wd sg res : Int32} {se bs i w u ex gl gm p1 n1 m1 tw : Nat} (h : RTp T G f29 f30 f31 f32 f36 f37 f38 f40 f41 f42 wd sg res se bs i 3 w u ex gl gm p1 n1 m1 tw) (e : f40 i = 2) : p1 = 0 ∧ n1 = 0 ∧ m1 = 0 ∧ gl ≤ gm ∧ ex ≤ 1 ∧ tw = 1 ∧ w ≤ 24 ∧ ∃ c, res = nI c ∧ TruO G f29 c (49 - 2 * w) := by
  rcases h with ⟨h1, h2, h3, ⟨a1, a2, a3, a4⟩, ⟨a6, a5⟩, a7, h4⟩ | ⟨h1, ck, ⟨⟨b0, b1, b3, b2⟩, h2⟩, c, h3, h4⟩
  · exact absurd (e.symm.trans h1) (by decide)
  · rcases h2 with h | h | h | h | h | h | h | h | h | h | h | h
    · exact absurd h.1 (by decide)
    · exact absurd h.1 (by decide)
    · exact absurd h.1 (by decide)
    · exact absurd h.1 (by decide)
    · exact absurd h.1 (by decide)
    · exact absurd h.1 (by decide)
    · exact absurd h.1 (by decide)
    · exact absurd h.1 (by decide)
    · exact absurd (e.symm.trans h.2.2.1) (by decide)
    · (rcases h4 with h4 | h4 | h4); (exact absurd (h.2.1 ▸ h4.1) (by decide)); (exact ⟨h.2.2.2.2.2, h.2.2.2.1, h.2.2.2.2.1, b2, b0, h1, h4.2.1, c, h3, h4.2.2⟩); (exact absurd (h.2.1.symm.trans h4.1) (by decide))
    · exact absurd (e.symm.trans h.2.2.1) (by decide)
    · exact absurd (e.symm.trans h.2.2.1) (by decide)
theorem RTp.one3 {T : Nat → Nat → Int32} {G : RG} {f29 f30 f31 f32 f36 f37 f38 f40 f41 f42 : Nat → Int32} {wd sg res : Int32} {se bs i w u ex gl gm p1 n1 m1 tw : Nat} (h : RTp T G f29 f30 f31 f32 f36 f37 f38 f40 f41 f42 wd sg res se bs i 3 w u ex gl gm p1 n1 m1 tw) (e : f40 i = 3) : p1 = 0 ∧ n1 = 0 ∧ m1 = 0 ∧ gl ≤ gm ∧ ex ≤ 1 ∧ tw = 1 ∧ w ≤ 24 ∧ ∃ c, res = nI c ∧ LinO G f29 c (49 - 2 * w) := by
  rcases h with ⟨h1, h2, h3, ⟨a1, a2, a3, a4⟩, ⟨a6, a5⟩, a7, h4⟩ | ⟨h1, ck, ⟨⟨b0, b1, b3, b2⟩, h2⟩, c, h3, h4⟩
  · exact absurd (e.symm.trans h1) (by decide)
  · rcases h2 with h | h | h | h | h | h | h | h | h | h | h | h
    · exact absurd h.1 (by decide)
    · exact absurd h.1 (by decide)
    · exact absurd h.1 (by decide)
    · exact absurd h.1 (by decide)
    · exact absurd h.1 (by decide)
    · exact absurd h.1 (by decide)
    · exact absurd h.1 (by decide)
    · exact absurd h.1 (by decide)
    · exact absurd (e.symm.trans h.2.2.1) (by decide)
    · exact absurd (e.symm.trans h.2.2.1) (by decide)
    · (rcases h4 with h4 | h4 | h4); (exact ⟨h.2.2.2.2.2, h.2.2.2.1, h.2.2.2.2.1, b2, b0, h1, h4.2.1, c, h3, h4.2.2⟩); (exact absurd (h.2.1.symm.trans h4.1) (by decide)); (exact absurd (h.2.1.symm.trans h4.1) (by decide))
    · exact absurd (e.symm.trans h.2.2.1) (by decide)
theorem RTp.one4 {T : Nat → Nat → Int32} {G : RG} {f29 f30 f31 f32 f36 f37 f38 f40 f41 f42 : Nat → Int32} {wd sg res : Int32} {se bs i w u ex gl gm p1 n1 m1 tw : Nat} (h : RTp T G f29 f30 f31 f32 f36 f37 f38 f40 f41 f42 wd sg res se bs i 3 w u ex gl gm p1 n1 m1 tw) (e0 : ¬ f40 i = 0) (e1 : ¬ f40 i = 1) (e2 : ¬ f40 i = 2) (e3 : ¬ f40 i = 3) : p1 = 1 ∧ n1 = 0 ∧ m1 = 0 ∧ gl ≤ gm ∧ ex ≤ 1 ∧ tw = 1 ∧ w ≤ 24 ∧ ∃ c d, res = nI c ∧ LinO G f29 c (49 - 2 * w) ∧ f41 i = nI d ∧ LinO G f29 d (51 - 2 * w) := by
  rcases h with ⟨h1, h2, h3, ⟨a1, a2, a3, a4⟩, ⟨a6, a5⟩, a7, h4⟩ | ⟨h1, ck, ⟨⟨b0, b1, b3, b2⟩, h2⟩, c, h3, h4⟩
  · exact absurd h1 e0
  · rcases h2 with h | h | h | h | h | h | h | h | h | h | h | h
    · exact absurd h.1 (by decide)
    · exact absurd h.1 (by decide)
    · exact absurd h.1 (by decide)
    · exact absurd h.1 (by decide)
    · exact absurd h.1 (by decide)
    · exact absurd h.1 (by decide)
    · exact absurd h.1 (by decide)
    · exact absurd h.1 (by decide)
    · exact absurd h.2.2.1 e1
    · exact absurd h.2.2.1 e2
    · exact absurd h.2.2.1 e3
    · (obtain ⟨_, g1, _, g2, g3, g4, d, g5, g6⟩ := h); (rcases h4 with h4 | h4 | h4); (exact ⟨g4, g2, g3, b2, b0, h1, h4.2.1, c, d, h3, h4.2.2, g5, g6⟩); (exact absurd (g1.symm.trans h4.1) (by decide)); (exact absurd (g1.symm.trans h4.1) (by decide))
