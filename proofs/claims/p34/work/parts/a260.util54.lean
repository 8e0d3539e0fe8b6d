theorem RTp.fac0 {T : Nat → Nat → Int32} {G : RG} {f29 f30 f31 f32 f36 f37 f38 f40 f41 f42 : Nat → Int32} {wd sg res : Int32} {se bs i w u ex gl gm p1 n1 m1 tw : Nat} (h : RTp T G f29 f30 f31 f32 f36 f37 f38 f40 f41 f42 wd sg res se bs i 1 w u ex gl gm p1 n1 m1 tw) (e : f40 i = 0) : f41 i = -1 ∧ f42 i = -1 ∧ p1 = 0 ∧ n1 = 0 ∧ m1 = 0 ∧ gm = gl ∧ ex = 1 ∧ tw = 1 := by
  rcases h with ⟨h1, h2, h3, ⟨a1, a2, a3, a4⟩, ⟨a6, a5⟩, a7, h4⟩ | ⟨h1, ck, ⟨⟨b0, b1, b3, b2⟩, h2⟩, c, h3, h4⟩
  · exact ⟨h2, h3, a1, a2, a3, a4, a5 (by decide), by omega⟩
  · rcases h2 with h | h | h | h | h | h | h | h | h | h | h | h
    · exact absurd h.1 (by decide)
    · exact absurd (e.symm.trans h.2.2.1) (by decide)
    · exact absurd (e.symm.trans h.2.2.1) (by decide)
    · exact absurd (e.symm.trans h.2.2.1) (by decide)
    · exact absurd (e.symm.trans h.2.2.1) (by decide)
    · exact absurd (e.symm.trans h.2.2.1) (by decide)
    · exact absurd (e.symm.trans h.2.2.1) (by decide)
    · exact absurd h.1 (by decide)
    · exact absurd h.1 (by decide)
    · exact absurd h.1 (by decide)
    · exact absurd h.1 (by decide)
    · exact absurd h.1 (by decide)
theorem RTp.fac1 {T : Nat → Nat → Int32} {G : RG} {f29 f30 f31 f32 f36 f37 f38 f40 f41 f42 : Nat → Int32} {wd sg res : Int32} {se bs i w u ex gl gm p1 n1 m1 tw : Nat} (h : RTp T G f29 f30 f31 f32 f36 f37 f38 f40 f41 f42 wd sg res se bs i 1 w u ex gl gm p1 n1 m1 tw) (e : f40 i = 1) : p1 = 1 ∧ n1 = 0 ∧ m1 = 0 ∧ gl ≤ gm ∧ ex = 1 ∧ tw = 1 ∧ w ≤ 24 ∧ ∃ c, res = nI c ∧ LinO G f29 c (49 - 2 * w) := by
  rcases h with ⟨h1, h2, h3, ⟨a1, a2, a3, a4⟩, ⟨a6, a5⟩, a7, h4⟩ | ⟨h1, ck, ⟨⟨b0, b1, b3, b2⟩, h2⟩, c, h3, h4⟩
  · exact absurd (e.symm.trans h1) (by decide)
  · rcases h2 with h | h | h | h | h | h | h | h | h | h | h | h
    · exact absurd h.1 (by decide)
    · (rcases h4 with h4 | h4 | h4); (exact ⟨h.2.2.2.2.2, h.2.2.2.1, h.2.2.2.2.1, b2, b1 (by decide), h1, h4.2.1, c, h3, h4.2.2⟩); (exact absurd (h.2.1.symm.trans h4.1) (by decide)); (exact absurd (h.2.1.symm.trans h4.1) (by decide))
    · exact absurd (e.symm.trans h.2.2.1) (by decide)
    · exact absurd (e.symm.trans h.2.2.1) (by decide)
    · exact absurd (e.symm.trans h.2.2.1) (by decide)
    · exact absurd (e.symm.trans h.2.2.1) (by decide)
    · exact absurd (e.symm.trans h.2.2.1) (by decide)
    · exact absurd h.1 (by decide)
    · exact absurd h.1 (by decide)
    · exact absurd h.1 (by decide)
    · exact absurd h.1 (by decide)
    · exact absurd h.1 (by decide)
theorem RTp.fac2 {T : Nat → Nat → Int32} {G : RG} {f29 f30 f31 f32 f36 f37 f38 f40 f41 f42 : Nat → Int32} {wd sg res : Int32} {se bs i w u ex gl gm p1 n1 m1 tw : Nat} (h : RTp T G f29 f30 f31 f32 f36 f37 f38 f40 f41 f42 wd sg res se bs i 1 w u ex gl gm p1 n1 m1 tw) (e : f40 i = 2) : p1 = 0 ∧ n1 = 0 ∧ m1 = 0 ∧ gl ≤ gm ∧ ex = 1 ∧ tw = 1 ∧ w ≤ 24 ∧ ∃ c, res = nI c ∧ LinO G f29 c (49 - 2 * w) := by
  rcases h with ⟨h1, h2, h3, ⟨a1, a2, a3, a4⟩, ⟨a6, a5⟩, a7, h4⟩ | ⟨h1, ck, ⟨⟨b0, b1, b3, b2⟩, h2⟩, c, h3, h4⟩
  · exact absurd (e.symm.trans h1) (by decide)
  · rcases h2 with h | h | h | h | h | h | h | h | h | h | h | h
    · exact absurd h.1 (by decide)
    · exact absurd (e.symm.trans h.2.2.1) (by decide)
    · (rcases h4 with h4 | h4 | h4); (exact ⟨h.2.2.2.2.2, h.2.2.2.1, h.2.2.2.2.1, b2, b1 (by decide), h1, h4.2.1, c, h3, h4.2.2⟩); (exact absurd (h.2.1.symm.trans h4.1) (by decide)); (exact absurd (h.2.1.symm.trans h4.1) (by decide))
    · exact absurd (e.symm.trans h.2.2.1) (by decide)
    · exact absurd (e.symm.trans h.2.2.1) (by decide)
    · exact absurd (e.symm.trans h.2.2.1) (by decide)
    · exact absurd (e.symm.trans h.2.2.1) (by decide)
    · exact absurd h.1 (by decide)
    · exact absurd h.1 (by decide)
    · exact absurd h.1 (by decide)
    · exact absurd h.1 (by decide)
    · exact absurd h.1 (by decide)
theorem RTp.fac3 {T : Nat → Nat → Int32} {G : RG} {f29 f30 f31 f32 f36 f37 f38 f40 f41 f42 : Nat → Int32} {wd sg res : Int32} {se bs i w u ex gl gm p1 n1 m1 tw : Nat} (h : RTp T G f29 f30 f31 f32 f36 f37 f38 f40 f41 f42 wd sg res se bs i 1 w u ex gl gm p1 n1 m1 tw) (e : f40 i = 3) : p1 = 0 ∧ n1 = 1 ∧ m1 = 0 ∧ gl ≤ gm ∧ ex = 1 ∧ tw = 1 ∧ w ≤ 24 ∧ (∃ c, res = nI c ∧ LinO G f29 c (49 - 2 * w)) ∧ ∃ g pl, f41 i = nI g ∧ gl ≤ g ∧ g < gm ∧ ¬ G.V g ∧ UnN T f29 f30 se g pl ∧ f31 g = -1 ∧ f32 g = -1 := by
  rcases h with ⟨h1, h2, h3, ⟨a1, a2, a3, a4⟩, ⟨a6, a5⟩, a7, h4⟩ | ⟨h1, ck, ⟨⟨b0, b1, b3, b2⟩, h2⟩, c, h3, h4⟩
  · exact absurd (e.symm.trans h1) (by decide)
  · rcases h2 with h | h | h | h | h | h | h | h | h | h | h | h
    · exact absurd h.1 (by decide)
    · exact absurd (e.symm.trans h.2.2.1) (by decide)
    · exact absurd (e.symm.trans h.2.2.1) (by decide)
    · (rcases h4 with h4 | h4 | h4); (exact ⟨h.2.2.2.2.2.1, h.2.2.2.1, h.2.2.2.2.1, b2, b1 (by decide), h1, h4.2.1, ⟨c, h3, h4.2.2⟩, h.2.2.2.2.2.2⟩); (exact absurd (h.2.1.symm.trans h4.1) (by decide)); (exact absurd (h.2.1.symm.trans h4.1) (by decide))
    · exact absurd (e.symm.trans h.2.2.1) (by decide)
    · exact absurd (e.symm.trans h.2.2.1) (by decide)
    · exact absurd (e.symm.trans h.2.2.1) (by decide)
    · exact absurd h.1 (by decide)
    · exact absurd h.1 (by decide)
    · exact absurd h.1 (by decide)
    · exact absurd h.1 (by decide)
    · exact absurd h.1 (by decide)
theorem RTp.fac4 {T : Nat → Nat → Int32} {G : RG} {f29 f30 f31 f32 f36 f37 f38 f40 f41 f42 : Nat → Int32} {wd sg res : Int32} {se bs i w u ex gl gm p1 n1 m1 tw : Nat} (h : RTp T G f29 f30 f31 f32 f36 f37 f38 f40 f41 f42 wd sg res se bs i 1 w u ex gl gm p1 n1 m1 tw) (e : f40 i = 4) : p1 = 0 ∧ n1 = 1 ∧ m1 = 0 ∧ gl ≤ gm ∧ ex = 1 ∧ tw = 1 ∧ w ≤ 24 ∧ (∃ c, res = nI c ∧ LinO G f29 c (49 - 2 * w)) ∧ ∃ g d, f41 i = nI g ∧ gl ≤ g ∧ g < gm ∧ ¬ G.V g ∧ UnN T f29 f30 se g 2 ∧ f31 g = nI d ∧ LinO G f29 d (51 - 2 * w) ∧ f32 g = -1 := by
  rcases h with ⟨h1, h2, h3, ⟨a1, a2, a3, a4⟩, ⟨a6, a5⟩, a7, h4⟩ | ⟨h1, ck, ⟨⟨b0, b1, b3, b2⟩, h2⟩, c, h3, h4⟩
  · exact absurd (e.symm.trans h1) (by decide)
  · rcases h2 with h | h | h | h | h | h | h | h | h | h | h | h
    · exact absurd h.1 (by decide)
    · exact absurd (e.symm.trans h.2.2.1) (by decide)
    · exact absurd (e.symm.trans h.2.2.1) (by decide)
    · exact absurd (e.symm.trans h.2.2.1) (by decide)
    · (rcases h4 with h4 | h4 | h4); (exact ⟨h.2.2.2.2.2.1, h.2.2.2.1, h.2.2.2.2.1, b2, b1 (by decide), h1, h4.2.1, ⟨c, h3, h4.2.2⟩, h.2.2.2.2.2.2⟩); (exact absurd (h.2.1.symm.trans h4.1) (by decide)); (exact absurd (h.2.1.symm.trans h4.1) (by decide))
    · exact absurd (e.symm.trans h.2.2.1) (by decide)
    · exact absurd (e.symm.trans h.2.2.1) (by decide)
    · exact absurd h.1 (by decide)
    · exact absurd h.1 (by decide)
    · exact absurd h.1 (by decide)
    · exact absurd h.1 (by decide)
    · exact absurd h.1 (by decide)
theorem RTp.fac5 {T : Nat → Nat → Int32} {G : RG} {f29 f30 f31 f32 f36 f37 f38 f40 f41 f42 : Nat → Int32} {wd sg res : Int32} {se bs i w u ex gl gm p1 n1 m1 tw : Nat} (h : RTp T G f29 f30 f31 f32 f36 f37 f38 f40 f41 f42 wd sg res se bs i 1 w u ex gl gm p1 n1 m1 tw) (e : f40 i = 5) : p1 = 0 ∧ n1 = 1 ∧ m1 = 1 ∧ gl ≤ gm ∧ ex = 1 ∧ tw = 1 ∧ w ≤ 24 ∧ (∃ c, res = nI c ∧ TruO G f29 c (49 - 2 * w)) ∧ ∃ g, f41 i = nI g ∧ gl ≤ g ∧ g < gm ∧ ¬ G.V g ∧ UnS f29 f30 f36 f37 f38 se bs u g ∧ f31 g = -1 := by
  rcases h with ⟨h1, h2, h3, ⟨a1, a2, a3, a4⟩, ⟨a6, a5⟩, a7, h4⟩ | ⟨h1, ck, ⟨⟨b0, b1, b3, b2⟩, h2⟩, c, h3, h4⟩
  · exact absurd (e.symm.trans h1) (by decide)
  · rcases h2 with h | h | h | h | h | h | h | h | h | h | h | h
    · exact absurd h.1 (by decide)
    · exact absurd (e.symm.trans h.2.2.1) (by decide)
    · exact absurd (e.symm.trans h.2.2.1) (by decide)
    · exact absurd (e.symm.trans h.2.2.1) (by decide)
    · exact absurd (e.symm.trans h.2.2.1) (by decide)
    · (rcases h4 with h4 | h4 | h4); (exact absurd (h.2.1 ▸ h4.1) (by decide)); (exact ⟨h.2.2.2.2.2.1, h.2.2.2.1, h.2.2.2.2.1, b2, b1 (by decide), h1, h4.2.1, ⟨c, h3, h4.2.2⟩, h.2.2.2.2.2.2⟩); (exact absurd (h.2.1.symm.trans h4.1) (by decide))
    · exact absurd (e.symm.trans h.2.2.1) (by decide)
    · exact absurd h.1 (by decide)
    · exact absurd h.1 (by decide)
    · exact absurd h.1 (by decide)
    · exact absurd h.1 (by decide)
    · exact absurd h.1 (by decide)
theorem RTp.fac6 {T : Nat → Nat → Int32} {G : RG} {f29 f30 f31 f32 f36 f37 f38 f40 f41 f42 : Nat → Int32} {wd sg res : Int32} {se bs i w u ex gl gm p1 n1 m1 tw : Nat} (h : RTp T G f29 f30 f31 f32 f36 f37 f38 f40 f41 f42 wd sg res se bs i 1 w u ex gl gm p1 n1 m1 tw) (e0 : ¬ f40 i = 0) (e1 : ¬ f40 i = 1) (e2 : ¬ f40 i = 2) (e3 : ¬ f40 i = 3) (e4 : ¬ f40 i = 4) (e5 : ¬ f40 i = 5) : p1 = 0 ∧ n1 = 1 ∧ m1 = 1 ∧ gl ≤ gm ∧ ex = 1 ∧ tw = 1 ∧ w ≤ 24 ∧ (∃ c, res = nI c ∧ LinO G f29 c (49 - 2 * w)) ∧ ∃ g, f41 i = nI g ∧ gl ≤ g ∧ g < gm ∧ ¬ G.V g ∧ UnS f29 f30 f36 f37 f38 se bs u g ∧ (f31 g = -1 ∨ ∃ d, f31 g = nI d ∧ TruO G f29 d (50 - 2 * w)) := by
  rcases h with ⟨h1, h2, h3, ⟨a1, a2, a3, a4⟩, ⟨a6, a5⟩, a7, h4⟩ | ⟨h1, ck, ⟨⟨b0, b1, b3, b2⟩, h2⟩, c, h3, h4⟩
  · exact absurd h1 e0
  · rcases h2 with h | h | h | h | h | h | h | h | h | h | h | h
    · exact absurd h.1 (by decide)
    · exact absurd h.2.2.1 e1
    · exact absurd h.2.2.1 e2
    · exact absurd h.2.2.1 e3
    · exact absurd h.2.2.1 e4
    · exact absurd h.2.2.1 e5
    · (rcases h4 with h4 | h4 | h4); (exact ⟨h.2.2.2.2.2.1, h.2.2.2.1, h.2.2.2.2.1, b2, b1 (by decide), h1, h4.2.1, ⟨c, h3, h4.2.2⟩, h.2.2.2.2.2.2⟩); (exact absurd (h.2.1.symm.trans h4.1) (by decide)); (exact absurd (h.2.1.symm.trans h4.1) (by decide))
    · exact absurd h.1 (by decide)
    · exact absurd h.1 (by decide)
    · exact absurd h.1 (by decide)
    · exact absurd h.1 (by decide)
    · exact absurd h.1 (by decide)
theorem RdK.b31 {T : Nat → Nat → Int32} {G G' : RG} {f29 f30 f31 f32 f36 f37 f38 g29 g30 g31 g32 g36 g37 g38 : Nat → Int32} {se nd bs gl : Nat} {n : Nat} {v : Int32} (h : RdK T G f29 f30 f31 f32 f36 f37 f38 G' g29 g30 g31 g32 g36 g37 g38 se nd bs gl) (hv : ¬ G'.V n) (hg : gl ≤ n) (h4 : n < 4000) : RdK T G f29 f30 f31 f32 f36 f37 f38 G' g29 g30 (upd g31 (nI n).toNatClampNeg v) g32 g36 g37 g38 se nd bs gl := ⟨h.1.b31 hv (by omega), h.2.1.b31 hg (by omega), h.2.2⟩
theorem RdK.b32 {T : Nat → Nat → Int32} {G G' : RG} {f29 f30 f31 f32 f36 f37 f38 g29 g30 g31 g32 g36 g37 g38 : Nat → Int32} {se nd bs gl : Nat} {n : Nat} {v : Int32} (h : RdK T G f29 f30 f31 f32 f36 f37 f38 G' g29 g30 g31 g32 g36 g37 g38 se nd bs gl) (hv : ¬ G'.V n) (hg : gl ≤ n) (h4 : n < 4000) : RdK T G f29 f30 f31 f32 f36 f37 f38 G' g29 g30 g31 (upd g32 (nI n).toNatClampNeg v) g36 g37 g38 se nd bs gl := ⟨h.1.b32 hv (by omega), h.2.1.b32 hg (by omega), h.2.2⟩
/-- a name node is finished -/
theorem RdK.fin1 {T : Nat → Nat → Int32} {G G' : RG} {f29 f30 f31 f32 f36 f37 f38 g29 g30 g31 g32 g36 g37 g38 : Nat → Int32} {se nd bs gl : Nat} {n d P p : Nat} (h : RdK T G f29 f30 f31 f32 f36 f37 f38 G' g29 g30 g31 g32 g36 g37 g38 se nd bs gl) (hv : ¬ G'.V n) (hv0 : ¬ G.V n) (hg : gl ≤ n) (hn : n < nd) (h4 : n < 4000) (hUn : UnN T g29 g30 se n 1) (hb : g31 n = nI d) (hd : LinO G' g29 d P) (hP : P ≤ p) (hc : g32 n = -1) (hp : 1 ≤ p) : RdK T G f29 f30 f31 f32 f36 f37 f38 (G'.add n (G'.wt d + 4) p 0) g29 g30 g31 g32 g36 g37 g38 se nd bs gl ∧ LinO (G'.add n (G'.wt d + 4) p 0) g29 n p := by
  obtain ⟨k, a, o1, o2, aT, hkk, hk, ha, hS, _⟩ := hUn
  exact ⟨⟨h.1.name1 hv hn h4 hkk hk ha hS hp rfl hb hd hP hc, h.2.1.add hg hv0, h.2.2⟩, LinO.new hk (by omega)⟩
theorem RdK.fin2 {T : Nat → Nat → Int32} {G G' : RG} {f29 f30 f31 f32 f36 f37 f38 g29 g30 g31 g32 g36 g37 g38 : Nat → Int32} {se nd bs gl : Nat} {n d c P Q p : Nat} (h : RdK T G f29 f30 f31 f32 f36 f37 f38 G' g29 g30 g31 g32 g36 g37 g38 se nd bs gl) (hv : ¬ G'.V n) (hv0 : ¬ G.V n) (hg : gl ≤ n) (hn : n < nd) (h4 : n < 4000) (hUn : UnN T g29 g30 se n 2) (hb : g31 n = nI d) (hd : LinO G' g29 d P) (hP : P ≤ p) (hcc : g32 n = nI c) (hc : LinO G' g29 c Q) (hQ : Q ≤ p) (hp : 1 ≤ p) : RdK T G f29 f30 f31 f32 f36 f37 f38 (G'.add n (G'.wt c + G'.wt d + 4) p 0) g29 g30 g31 g32 g36 g37 g38 se nd bs gl ∧ LinO (G'.add n (G'.wt c + G'.wt d + 4) p 0) g29 n p := by
  obtain ⟨k, a, o1, o2, aT, hkk, hk, ha, hS, _⟩ := hUn
  exact ⟨⟨h.1.name2 hv hn h4 hkk hk ha hS hp rfl hb hd hP hcc hc hQ, h.2.1.add hg hv0, h.2.2⟩, LinO.new hk (by omega)⟩
/-- a sum is finished -/
theorem RdK.finS {T : Nat → Nat → Int32} {G G' : RG} {f29 f30 f31 f32 f36 f37 f38 g29 g30 g31 g32 g36 g37 g38 : Nat → Int32} {se nd bs gl : Nat} {n c P p u : Nat} (h : RdK T G f29 f30 f31 f32 f36 f37 f38 G' g29 g30 g31 g32 g36 g37 g38 se nd bs gl) (hv : ¬ G'.V n) (hv0 : ¬ G.V n) (hg : gl ≤ n) (hn : n < nd) (h4 : n < 4000) (hSe : SeO (T 16) (T 17) se) (h44 : se ≤ 44) (hUn : UnS g29 g30 g36 g37 g38 se bs u n) (hb : g31 n = -1 ∨ ∃ d, g31 n = nI d ∧ TruO G' g29 d (p - 1)) (hcc : g32 n = nI c) (hc : LinO G' g29 c P) (hP : P + 1 ≤ p) (hp : 2 ≤ p) : ∃ w y, RdK T G f29 f30 f31 f32 f36 f37 f38 (G'.add n w p y) g29 g30 g31 g32 g36 g37 g38 se nd bs gl ∧ LinO (G'.add n w p y) g29 n p := by
  obtain ⟨hk, b, ha, hbs, hb9, hB, _⟩ := hUn
  obtain ⟨m, hM, hm⟩ := hB.members hSe h44
  obtain ⟨w, hw⟩ := h.1.sum hv hn h4 hk hp ha hb9 hbs hB hM hm hcc hc hP hb
  exact ⟨w, nI m, ⟨hw, h.2.1.add hg hv0, h.2.2⟩, LinO.new hk (by decide)⟩
/-- what is declared: the places of names -/
def DcO (T : Nat → Nat → Int32) (se pa va : Nat) : Prop := (∀ a, a < pa → ∃ pl o1 o2 aT, NamS T se 2 a pl o1 o2 aT) ∧ ∀ a, a < va → ∃ pl o1 o2 aT, NamS T se 3 a pl o1 o2 aT
