/-- a part that may be there: -1, or a finished one -/
def OpL (G : RG) (f29 : Nat → Int32) (x : Int32) (P a : Nat) : Prop := (x = -1 ∧ a = 0) ∨ (a = 1 ∧ ∃ c, x = nI c ∧ LinO G f29 c P)
def OpT (G : RG) (f29 : Nat → Int32) (x : Int32) (P a : Nat) : Prop := (x = -1 ∧ a = 0) ∨ (a = 1 ∧ ∃ c, x = nI c ∧ TruO G f29 c P)
/-- a name node under way, a sum node under way -/
def UnN (T : Nat → Nat → Int32) (f29 f30 : Nat → Int32) (se g pl : Nat) : Prop := ∃ k a o1 o2 aT, (k = 2 ∨ k = 3) ∧ f29 g = nI k ∧ (f30 g = nI a ∧ a < 44) ∧ NamS T se k a pl o1 o2 aT ∧ 1 ≤ pl
def UnS (f29 f30 f36 f37 f38 : Nat → Int32) (se bs u g : Nat) : Prop := f29 g = nI 9 ∧ ∃ b, f30 g = nI b ∧ b < bs ∧ b < 900 ∧ BnO f36 f37 f38 se b ∧ ∃ x, f38 b = nI x ∧ x ≤ 2 + 2 * u
/-- what a reader's frame has under way: i the frame, ek its kind, ck the kind of the frame that it has begun, w its depth, u the sums below it, ex whether it counts, gl gm: the nodes under way of the frames below it, up to it; p1: operators read whose node is to come, n1: nodes under way, m1: sums -/
def RWt (T : Nat → Nat → Int32) (G : RG) (f29 f30 f31 f32 f36 f37 f38 f40 f41 f42 : Nat → Int32) (se bs i ek ck w u ex gl gm p1 n1 m1 : Nat) : Prop :=
  (ex ≤ 1 ∧ (ek ≠ 3 → ex = 1) ∧ (ck = 3 → ex = 1) ∧ gl ≤ gm) ∧
  ((ek = 0 ∧ ck = 1 ∧ f40 i = 1 ∧ n1 = 0 ∧ m1 = 0 ∧ ∃ a b, OpL G f29 (f41 i) (51 - 2 * w) a ∧ OpL G f29 (f42 i) (50 - 2 * w) b ∧ p1 = a + b) ∨
   (ek = 1 ∧ ck = 1 ∧ f40 i = 1 ∧ n1 = 0 ∧ m1 = 0 ∧ p1 = 1) ∨
   (ek = 1 ∧ ck = 0 ∧ f40 i = 2 ∧ n1 = 0 ∧ m1 = 0 ∧ p1 = 0) ∨
   (ek = 1 ∧ ck = 0 ∧ f40 i = 3 ∧ n1 = 1 ∧ m1 = 0 ∧ p1 = 0 ∧ ∃ g pl, f41 i = nI g ∧ gl ≤ g ∧ g < gm ∧ ¬ G.V g ∧ UnN T f29 f30 se g pl ∧ f31 g = -1 ∧ f32 g = -1) ∨
   (ek = 1 ∧ ck = 0 ∧ f40 i = 4 ∧ n1 = 1 ∧ m1 = 0 ∧ p1 = 0 ∧ ∃ g d, f41 i = nI g ∧ gl ≤ g ∧ g < gm ∧ ¬ G.V g ∧ UnN T f29 f30 se g 2 ∧ f31 g = nI d ∧ LinO G f29 d (51 - 2 * w) ∧ f32 g = -1) ∨
   (ek = 1 ∧ ck = 2 ∧ f40 i = 5 ∧ n1 = 1 ∧ m1 = 1 ∧ p1 = 0 ∧ ∃ g, f41 i = nI g ∧ gl ≤ g ∧ g < gm ∧ ¬ G.V g ∧ UnS f29 f30 f36 f37 f38 se bs u g ∧ f31 g = -1) ∨
   (ek = 1 ∧ ck = 1 ∧ f40 i = 6 ∧ n1 = 1 ∧ m1 = 1 ∧ p1 = 0 ∧ ∃ g, f41 i = nI g ∧ gl ≤ g ∧ g < gm ∧ ¬ G.V g ∧ UnS f29 f30 f36 f37 f38 se bs u g ∧ (f31 g = -1 ∨ ∃ d, f31 g = nI d ∧ TruO G f29 d (50 - 2 * w))) ∨
   (ek = 2 ∧ ck = 3 ∧ f40 i = 1 ∧ n1 = 0 ∧ m1 = 0 ∧ ∃ a b, OpT G f29 (f41 i) (51 - 2 * w) a ∧ OpT G f29 (f42 i) (51 - 2 * w) b ∧ p1 = a + b) ∨
   (ek = 3 ∧ ck = 3 ∧ f40 i = 1 ∧ n1 = 0 ∧ m1 = 0 ∧ p1 = 1) ∨
   (ek = 3 ∧ ck = 2 ∧ f40 i = 2 ∧ n1 = 0 ∧ m1 = 0 ∧ p1 = 0) ∨
   (ek = 3 ∧ ck = 0 ∧ f40 i = 3 ∧ n1 = 0 ∧ m1 = 0 ∧ p1 = 0) ∨
   (ek = 3 ∧ ck = 0 ∧ f40 i = 4 ∧ n1 = 0 ∧ m1 = 0 ∧ p1 = 1 ∧ ∃ c, f41 i = nI c ∧ LinO G f29 c (51 - 2 * w)))
/-- nodes and bindings grow: what is finished stays, what lies below gm stays under way -/
def Ext (gm bs : Nat) (G : RG) (f29 f30 f31 f32 f36 f37 f38 : Nat → Int32) (G' : RG) (g29 g30 g31 g32 g36 g37 g38 : Nat → Int32) : Prop :=
  (∀ q, q < gm → g29 q = f29 q ∧ g30 q = f30 q ∧ g31 q = f31 q ∧ g32 q = f32 q) ∧ (∀ q, G.V q → G'.V q ∧ g29 q = f29 q ∧ G'.pd q = G.pd q) ∧ (∀ q, q < gm → G'.V q → G.V q) ∧ ∀ b, b < bs → g36 b = f36 b ∧ g37 b = f37 b ∧ g38 b = f38 b
theorem Ext.lin {gm bs : Nat} {G G' : RG} {f29 f30 f31 f32 f36 f37 f38 g29 g30 g31 g32 g36 g37 g38 : Nat → Int32} (e : Ext gm bs G f29 f30 f31 f32 f36 f37 f38 G' g29 g30 g31 g32 g36 g37 g38) {c P : Nat} (h : LinO G f29 c P) : LinO G' g29 c P := by
  obtain ⟨a1, a2, a3⟩ := e.2.1 c h.1
  exact ⟨a1, by rw [a2]; exact h.2.1, by rw [a3]; exact h.2.2⟩
theorem Ext.tru {gm bs : Nat} {G G' : RG} {f29 f30 f31 f32 f36 f37 f38 g29 g30 g31 g32 g36 g37 g38 : Nat → Int32} (e : Ext gm bs G f29 f30 f31 f32 f36 f37 f38 G' g29 g30 g31 g32 g36 g37 g38) {c P : Nat} (h : TruO G f29 c P) : TruO G' g29 c P := by
  obtain ⟨a1, a2, a3⟩ := e.2.1 c h.1
  exact ⟨a1, by rw [a2]; exact h.2.1, by rw [a3]; exact h.2.2⟩
theorem Ext.opL {gm bs : Nat} {G G' : RG} {f29 f30 f31 f32 f36 f37 f38 g29 g30 g31 g32 g36 g37 g38 : Nat → Int32} (e : Ext gm bs G f29 f30 f31 f32 f36 f37 f38 G' g29 g30 g31 g32 g36 g37 g38) {x : Int32} {P a : Nat} (h : OpL G f29 x P a) : OpL G' g29 x P a := h.imp id (fun ⟨h1, c, h2, h3⟩ => ⟨h1, c, h2, e.lin h3⟩)
theorem Ext.opT {gm bs : Nat} {G G' : RG} {f29 f30 f31 f32 f36 f37 f38 g29 g30 g31 g32 g36 g37 g38 : Nat → Int32} (e : Ext gm bs G f29 f30 f31 f32 f36 f37 f38 G' g29 g30 g31 g32 g36 g37 g38) {x : Int32} {P a : Nat} (h : OpT G f29 x P a) : OpT G' g29 x P a := h.imp id (fun ⟨h1, c, h2, h3⟩ => ⟨h1, c, h2, e.tru h3⟩)
theorem Ext.unN {gm bs : Nat} {G G' : RG} {f29 f30 f31 f32 f36 f37 f38 g29 g30 g31 g32 g36 g37 g38 : Nat → Int32} (e : Ext gm bs G f29 f30 f31 f32 f36 f37 f38 G' g29 g30 g31 g32 g36 g37 g38) {T : Nat → Nat → Int32} {se g pl : Nat} (hg : g < gm) (h : UnN T f29 f30 se g pl) : UnN T g29 g30 se g pl := by
  obtain ⟨k, a, o1, o2, aT, h1, h2, ⟨h3, h4⟩, h5, h6⟩ := h
  obtain ⟨e1, e2, _⟩ := e.1 g hg
  exact ⟨k, a, o1, o2, aT, h1, e1.trans h2, ⟨e2.trans h3, h4⟩, h5, h6⟩
theorem Ext.unS {gm bs bs' : Nat} {G G' : RG} {f29 f30 f31 f32 f36 f37 f38 g29 g30 g31 g32 g36 g37 g38 : Nat → Int32} (e : Ext gm bs G f29 f30 f31 f32 f36 f37 f38 G' g29 g30 g31 g32 g36 g37 g38) (hb : bs ≤ bs') {se u g : Nat} (hg : g < gm) (h : UnS f29 f30 f36 f37 f38 se bs u g) : UnS g29 g30 g36 g37 g38 se bs' u g := by
  obtain ⟨h1, b, h2, h3, h4, h5, x, h6, h7⟩ := h
  obtain ⟨e1, e2, _⟩ := e.1 g hg
  obtain ⟨c1, c2, c3⟩ := e.2.2.2 b h3
  refine ⟨e1.trans h1, b, e2.trans h2, by omega, h4, ?_, x, c3.trans h6, h7⟩
  unfold BnO at h5 ⊢
  rw [c1, c2, c3]
  exact h5
theorem Ext.less {gm gl bs : Nat} {G G' : RG} {f29 f30 f31 f32 f36 f37 f38 g29 g30 g31 g32 g36 g37 g38 : Nat → Int32} (e : Ext gm bs G f29 f30 f31 f32 f36 f37 f38 G' g29 g30 g31 g32 g36 g37 g38) (h : gl ≤ gm) : Ext gl bs G f29 f30 f31 f32 f36 f37 f38 G' g29 g30 g31 g32 g36 g37 g38 := ⟨fun q hq => e.1 q (by omega), e.2.1, fun q hq => e.2.2.1 q (by omega), e.2.2.2⟩
theorem RWt.mono {T : Nat → Nat → Int32} {G G' : RG} {f29 f30 f31 f32 f36 f37 f38 g29 g30 g31 g32 g36 g37 g38 f40 f41 f42 g40 g41 g42 : Nat → Int32} {se bs bs' i ek ck w u ex gl gm p1 n1 m1 : Nat} (h : RWt T G f29 f30 f31 f32 f36 f37 f38 f40 f41 f42 se bs i ek ck w u ex gl gm p1 n1 m1) (e : Ext gm bs G f29 f30 f31 f32 f36 f37 f38 G' g29 g30 g31 g32 g36 g37 g38) (hb : bs ≤ bs') (h40 : g40 i = f40 i) (h41 : g41 i = f41 i) (h42 : g42 i = f42 i) : RWt T G' g29 g30 g31 g32 g36 g37 g38 g40 g41 g42 se bs' i ek ck w u ex gl gm p1 n1 m1 := by
  refine ⟨h.1, ?_⟩
  rcases h.2 with ⟨a1, a2, a3, a4, a5, a, b, a6, a7, a8⟩ | h | h | ⟨a1, a2, a3, a4, a5, a6, g, pl, b1, b2, b3, b4, b5, b6, b7⟩ | ⟨a1, a2, a3, a4, a5, a6, g, d, b1, b2, b3, b4, b5, b6, b7, b8⟩ | ⟨a1, a2, a3, a4, a5, a6, g, b1, b2, b3, b4, b5, b6⟩ | ⟨a1, a2, a3, a4, a5, a6, g, b1, b2, b3, b4, b5, b6⟩ | ⟨a1, a2, a3, a4, a5, a, b, a6, a7, a8⟩ | h | h | h | ⟨a1, a2, a3, a4, a5, a6, c, b1, b2⟩
  · exact Or.inl ⟨a1, a2, h40.trans a3, a4, a5, a, b, by rw [h41]; exact e.opL a6, by rw [h42]; exact e.opL a7, a8⟩
  · exact Or.inr (Or.inl (by rw [h40]; exact h))
  · exact Or.inr (Or.inr (Or.inl (by rw [h40]; exact h)))
  · obtain ⟨_, _, e3, e4⟩ := e.1 g b3
    exact Or.inr (Or.inr (Or.inr (Or.inl ⟨a1, a2, h40.trans a3, a4, a5, a6, g, pl, h41.trans b1, b2, b3, fun q => b4 (e.2.2.1 g b3 q), e.unN b3 b5, e3.trans b6, e4.trans b7⟩)))
  · obtain ⟨_, _, e3, e4⟩ := e.1 g b3
    exact Or.inr (Or.inr (Or.inr (Or.inr (Or.inl ⟨a1, a2, h40.trans a3, a4, a5, a6, g, d, h41.trans b1, b2, b3, fun q => b4 (e.2.2.1 g b3 q), e.unN b3 b5, e3.trans b6, e.lin b7, e4.trans b8⟩))))
  · obtain ⟨_, _, e3, e4⟩ := e.1 g b3
    exact Or.inr (Or.inr (Or.inr (Or.inr (Or.inr (Or.inl ⟨a1, a2, h40.trans a3, a4, a5, a6, g, h41.trans b1, b2, b3, fun q => b4 (e.2.2.1 g b3 q), e.unS hb b3 b5, e3.trans b6⟩)))))
  · obtain ⟨_, _, e3, e4⟩ := e.1 g b3
    exact Or.inr (Or.inr (Or.inr (Or.inr (Or.inr (Or.inr (Or.inl ⟨a1, a2, h40.trans a3, a4, a5, a6, g, h41.trans b1, b2, b3, fun q => b4 (e.2.2.1 g b3 q), e.unS hb b3 b5, b6.imp (fun q => e3.trans q) (fun ⟨d, q, r⟩ => ⟨d, e3.trans q, e.tru r⟩)⟩))))))
  · exact Or.inr (Or.inr (Or.inr (Or.inr (Or.inr (Or.inr (Or.inr (Or.inl ⟨a1, a2, h40.trans a3, a4, a5, a, b, by rw [h41]; exact e.opT a6, by rw [h42]; exact e.opT a7, a8⟩)))))))
  · exact Or.inr (Or.inr (Or.inr (Or.inr (Or.inr (Or.inr (Or.inr (Or.inr (Or.inl (by rw [h40]; exact h)))))))))
  · exact Or.inr (Or.inr (Or.inr (Or.inr (Or.inr (Or.inr (Or.inr (Or.inr (Or.inr (Or.inl (by rw [h40]; exact h))))))))))
  · exact Or.inr (Or.inr (Or.inr (Or.inr (Or.inr (Or.inr (Or.inr (Or.inr (Or.inr (Or.inr (Or.inl (by rw [h40]; exact h)))))))))))
  · exact Or.inr (Or.inr (Or.inr (Or.inr (Or.inr (Or.inr (Or.inr (Or.inr (Or.inr (Or.inr (Or.inr ⟨a1, a2, h40.trans a3, a4, a5, a6, c, h41.trans b1, e.lin b2⟩))))))))))
/-- the reader's frames below the uppermost one: d of them, ck the kind of the one above them -/
def RBel (T : Nat → Nat → Int32) (G : RG) (f29 f30 f31 f32 f36 f37 f38 f39 f40 f41 f42 f48 : Nat → Int32) (se bs r0 : Nat) : Nat → Nat → Nat → Nat → Nat → Nat → Nat → Prop
  | 0, ck, cw, u, pe, un, _ => ck = r0 ∧ cw = 0 ∧ u = 0 ∧ pe = 0 ∧ un = 0
  | d + 1, ck, cw, u, pe, un, gm => ∃ ek cw' u' pe' un' gl ex p1 n1 m1, (f39 d = nI ek ∧ ek ≤ 3 ∧ f48 d = nI ex) ∧ RWt T G f29 f30 f31 f32 f36 f37 f38 f40 f41 f42 se bs d ek ck (cw' + ex) u' ex gl gm p1 n1 m1 ∧ RBel T G f29 f30 f31 f32 f36 f37 f38 f39 f40 f41 f42 f48 se bs r0 d ek cw' u' pe' un' gl ∧ (cw = cw' + ex ∧ u = u' + m1 ∧ pe = pe' + p1 ∧ un = un' + n1) ∧ cw ≤ 25
theorem RBel.congr {T : Nat → Nat → Int32} {G G' : RG} {f29 f30 f31 f32 f36 f37 f38 f39 f40 f41 f42 f48 g29 g30 g31 g32 g36 g37 g38 g39 g40 g41 g42 g48 : Nat → Int32} {se bs bs' r0 : Nat} (hb : bs ≤ bs') : ∀ (d ck cw u pe un gm : Nat), RBel T G f29 f30 f31 f32 f36 f37 f38 f39 f40 f41 f42 f48 se bs r0 d ck cw u pe un gm → Ext gm bs G f29 f30 f31 f32 f36 f37 f38 G' g29 g30 g31 g32 g36 g37 g38 → (∀ q, q < d → g39 q = f39 q ∧ g40 q = f40 q ∧ g41 q = f41 q ∧ g42 q = f42 q ∧ g48 q = f48 q) → RBel T G' g29 g30 g31 g32 g36 g37 g38 g39 g40 g41 g42 g48 se bs' r0 d ck cw u pe un gm
  | 0, _, _, _, _, _, _, h, _, _ => h
  | d + 1, ck, cw, u, pe, un, gm, h, e, hr => by
    obtain ⟨ek, cw', u', pe', un', gl, ex, p1, n1, m1, ⟨a1, a2, a3⟩, a4, a5, a6, a7⟩ := h
    obtain ⟨r1, r2, r3, r4, r5⟩ := hr d (Nat.lt_succ_self d)
    exact ⟨ek, cw', u', pe', un', gl, ex, p1, n1, m1, ⟨r1.trans a1, a2, r5.trans a3⟩, a4.mono e hb r2 r3 r4, RBel.congr hb d ek cw' u' pe' un' gl a5 (e.less a4.1.2.2.2) (fun q hq => hr q (by omega)), a6, a7⟩
/-- how deep the frames may lie -/
theorem RBel.deep {T : Nat → Nat → Int32} {G : RG} {f29 f30 f31 f32 f36 f37 f38 f39 f40 f41 f42 f48 : Nat → Int32} {se bs r0 : Nat} : ∀ (d ck cw u pe un gm : Nat), RBel T G f29 f30 f31 f32 f36 f37 f38 f39 f40 f41 f42 f48 se bs r0 d ck cw u pe un gm → d ≤ 2 * cw + 1 ∧ (ck = 3 → d ≤ 2 * cw) ∧ u ≤ cw
  | 0, _, _, _, _, _, _, h => by obtain ⟨_, h1, h2, _⟩ := h; omega
  | d + 1, ck, cw, u, pe, un, gm, h => by
    obtain ⟨ek, cw', u', pe', un', gl, ex, p1, n1, m1, _, a4, a5, a6, a7⟩ := h
    have ih := RBel.deep d ek cw' u' pe' un' gl a5
    obtain ⟨⟨b1, b2, b3, _⟩, b5⟩ := a4
    have hm : m1 ≤ ex := by
      rcases b5 with h | h | h | h | h | h | h | h | h | h | h | h
      · obtain ⟨h1, _, _, _, h5, _⟩ := h; omega
      · obtain ⟨h1, _, _, _, h5, _⟩ := h; omega
      · obtain ⟨h1, _, _, _, h5, _⟩ := h; omega
      · obtain ⟨h1, _, _, _, h5, _⟩ := h; omega
      · obtain ⟨h1, _, _, _, h5, _⟩ := h; omega
      · obtain ⟨h1, _, _, _, h5, _⟩ := h; (have := b2 (by omega)); omega
      · obtain ⟨h1, _, _, _, h5, _⟩ := h; (have := b2 (by omega)); omega
      · obtain ⟨h1, _, _, _, h5, _⟩ := h; omega
      · obtain ⟨h1, _, _, _, h5, _⟩ := h; omega
      · obtain ⟨h1, _, _, _, h5, _⟩ := h; omega
      · obtain ⟨h1, _, _, _, h5, _⟩ := h; omega
      · obtain ⟨h1, _, _, _, h5, _⟩ := h; omega
    by_cases e3 : ek = 3
    · have := ih.2.1 e3
      by_cases c3 : ck = 3
      · have := b3 c3; omega
      · exact ⟨by omega, fun q => absurd q c3, by omega⟩
    · have := b2 e3
      omega
/-- the value that a frame of the kind ck has read, begun by a frame at the depth w -/
def ResO (G : RG) (f29 : Nat → Int32) (res : Int32) (ck w : Nat) : Prop := ∃ c, res = nI c ∧ ((ck ≤ 1 ∧ w ≤ 24 ∧ LinO G f29 c (49 - 2 * w)) ∨ (ck = 2 ∧ w ≤ 24 ∧ TruO G f29 c (49 - 2 * w)) ∨ (ck = 3 ∧ w ≤ 25 ∧ TruO G f29 c (51 - 2 * w)))
/-- the uppermost frame's own: begun just now (tw: its turns to come), or the frame that it began has come back -/
def RTp (T : Nat → Nat → Int32) (G : RG) (f29 f30 f31 f32 f36 f37 f38 f40 f41 f42 : Nat → Int32) (wd sg res : Int32) (se bs i ek w u ex gl gm p1 n1 m1 tw : Nat) : Prop :=
  (f40 i = 0 ∧ f41 i = -1 ∧ f42 i = -1 ∧ (p1 = 0 ∧ n1 = 0 ∧ m1 = 0 ∧ gm = gl) ∧ (ex ≤ 1 ∧ (ek ≠ 3 → ex = 1)) ∧ (ek = 3 → wd = 2 → sg = 10 → ex = 1) ∧ ((ek = 0 ∧ tw = 3) ∨ (ek = 1 ∧ tw = 1) ∨ (ek = 2 ∧ tw = 7) ∨ (ek = 3 ∧ tw = 5))) ∨
  (tw = 1 ∧ ∃ ck, RWt T G f29 f30 f31 f32 f36 f37 f38 f40 f41 f42 se bs i ek ck w u ex gl gm p1 n1 m1 ∧ ResO G f29 res ck w)
/-- the reader's state within an expression -/
def RdT (T : Nat → Nat → Int32) (G : RG) (f29 f30 f31 f32 f36 f37 f38 f39 f40 f41 f42 f48 : Nat → Int32) (wd sg res : Int32) (se bs r0 d wi nd bd fn M ek cw u pe un gl gm ex p1 n1 m1 tw : Nat) : Prop :=
  (f39 d = nI ek ∧ ek ≤ 3 ∧ f48 d = nI ex) ∧ RBel T G f29 f30 f31 f32 f36 f37 f38 f39 f40 f41 f42 f48 se bs r0 d ek cw u pe un gl ∧ (cw + ex ≤ 25 ∧ wi = cw + ex) ∧ RTp T G f29 f30 f31 f32 f36 f37 f38 f40 f41 f42 wd sg res se bs d ek (cw + ex) u ex gl gm p1 n1 m1 tw ∧
  (nd + pe + p1 ≤ fn ∧ G.vN + un + n1 ≤ nd ∧ 5 * bs ≤ fn ∧ bd ≤ 2 + 2 * (u + m1) ∧ gm ≤ nd ∧ 10 * (4000 - fn) + d + tw ≤ M)
/-- .. or the whole expression has been read -/
def RdS (T : Nat → Nat → Int32) (G : RG) (f29 f30 f31 f32 f36 f37 f38 f39 f40 f41 f42 f48 : Nat → Int32) (wd sg res : Int32) (se bs r0 de wi nd bd fn M : Nat) : Prop :=
  RdV T G f29 f30 f31 f32 f36 f37 f38 se nd bs ∧
  ((de = 0 ∧ wi = 0 ∧ nd ≤ fn ∧ G.vN ≤ nd ∧ 5 * bs ≤ fn ∧ bd ≤ 2 ∧ ∃ c, res = nI c ∧ ((r0 ≤ 1 ∧ LinO G f29 c 51) ∨ (2 ≤ r0 ∧ TruO G f29 c 51))) ∨
   ∃ d ek cw u pe un gl gm ex p1 n1 m1 tw, de = d + 1 ∧ RdT T G f29 f30 f31 f32 f36 f37 f38 f39 f40 f41 f42 f48 wd sg res se bs r0 d wi nd bd fn M ek cw u pe un gl gm ex p1 n1 m1 tw)
