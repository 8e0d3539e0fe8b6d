def BiS (f36 f37 f38 : Nat → Int32) (se bs : Nat) (x : Int32) : Prop := x = -1 ∨ ∃ b, x = nI b ∧ b < bs ∧ b < 900 ∧ BnO f36 f37 f38 se b
theorem BiS.bi {f36 f37 f38 : Nat → Int32} {se bs : Nat} {x : Int32} (h : BiS f36 f37 f38 se bs x) : BiO f36 f37 f38 se x := h.imp id (fun ⟨b, h1, _, h2, h3⟩ => ⟨b, h1, h2, h3⟩)
theorem BiS.ext {G G' : RG} {f29 f30 f31 f32 f36 f37 f38 g29 g30 g31 g32 g36 g37 g38 : Nat → Int32} {se bs bs' : Nat} {x : Int32} (h : BiS f36 f37 f38 se bs x) (e : Ext 0 bs G f29 f30 f31 f32 f36 f37 f38 G' g29 g30 g31 g32 g36 g37 g38) (hb : bs ≤ bs') : BiS g36 g37 g38 se bs' x := by
  rcases h with h | ⟨b, h1, h2, h3, h4⟩
  · exact Or.inl h
  · obtain ⟨a1, a2, a3⟩ := e.2.2.2 b h2
    refine Or.inr ⟨b, h1, by omega, h3, ?_⟩
    unfold BnO at h4 ⊢
    rw [a1, a2, a3]; exact h4
theorem TiO.ext {bs : Nat} {G G' : RG} {f29 f30 f31 f32 f36 f37 f38 g29 g30 g31 g32 g36 g37 g38 : Nat → Int32} {x : Int32} (h : TiO G f29 x) (e : Ext 0 bs G f29 f30 f31 f32 f36 f37 f38 G' g29 g30 g31 g32 g36 g37 g38) : TiO G' g29 x := h.imp id (fun ⟨c, h1, h2⟩ => ⟨c, h1, e.tru h2⟩)
theorem Ext.zero {G : RG} {f29 f30 f31 f32 f36 f37 f38 g29 g30 g31 g32 g36 g37 g38 : Nat → Int32} : Ext 0 0 RG0 f29 f30 f31 f32 f36 f37 f38 G g29 g30 g31 g32 g36 g37 g38 := ⟨fun _ h => absurd h (by omega), fun _ h => h.elim, fun _ h => absurd h (by omega), fun _ h => absurd h (by omega)⟩
theorem RdD.zero {T : Nat → Nat → Int32} {f29 f30 f31 f32 f36 f37 f38 g29 g30 g31 g32 g36 g37 g38 g66 : Nat → Int32} {se bs wi bd fn : Nat} (h0 : wi = 0) (h5 : 5 * bs ≤ fn) (hb : bd ≤ 2) : RdD T RG0 f29 f30 f31 f32 f36 f37 f38 RG0 g29 g30 g31 g32 g36 g37 g38 g66 se 0 bs wi 0 bd fn 0 :=
  ⟨⟨fun _ h => h.elim, fun _ h => h.elim, fun _ _ h => h.elim⟩, Ext.zero, ⟨h0, Nat.zero_le _, Nat.le_refl _, h5, hb, Nat.zero_le _⟩, fun _ h => absurd h (by omega)⟩
theorem RdF.test {T : Nat → Nat → Int32} {G G' : RG} {f29 f30 f31 f32 f36 f37 f38 g29 g30 g31 g32 g36 g37 g38 e29 e30 e31 e32 e36 e37 e38 g66 : Nat → Int32} {res : Int32} {se bs bs' wi nd bd fn : Nat} (h : RdF T G f29 f30 f31 f32 f36 f37 f38 G' g29 g30 g31 g32 g36 g37 g38 res se bs bs' 2 wi nd bd fn) : TiO G' g29 res ∧ Ext 0 bs G f29 f30 f31 f32 f36 f37 f38 G' g29 g30 g31 g32 g36 g37 g38 ∧ bs ≤ bs' ∧ RdD T RG0 e29 e30 e31 e32 e36 e37 e38 G' g29 g30 g31 g32 g36 g37 g38 g66 se 0 bs' wi nd bd fn 0 := by
  obtain ⟨h1, h2, ⟨a1, a2, a3, a4, a5, a6⟩, c, h4, h5⟩ := h
  refine ⟨Or.inr ⟨c, h4, ?_⟩, h2, a6, h1, Ext.zero, ⟨a1, a2, a3, a4, a5, Nat.zero_le _⟩, fun _ h => absurd h (by omega)⟩
  rcases h5 with h5 | h5
  · exact absurd h5.1 (by decide)
  · exact h5.2
theorem RdD.next {T : Nat → Nat → Int32} {G G' G'' : RG} {f29 f30 f31 f32 f36 f37 f38 g29 g30 g31 g32 g36 g37 g38 e29 e30 e31 e32 e36 e37 e38 g66 : Nat → Int32} {se bs bs' bs'' wi nd bd fn pm : Nat} (h : RdD T G' g29 g30 g31 g32 g36 g37 g38 G'' e29 e30 e31 e32 e36 e37 e38 g66 se bs' bs'' wi nd bd fn pm) : RdD T RG0 f29 f30 f31 f32 f36 f37 f38 G'' e29 e30 e31 e32 e36 e37 e38 g66 se 0 bs'' wi nd bd fn pm :=
  ⟨h.1, Ext.zero, ⟨h.2.2.1.1, h.2.2.1.2.1, h.2.2.1.2.2.1, h.2.2.1.2.2.2.1, h.2.2.1.2.2.2.2.1, Nat.zero_le _⟩, h.2.2.2⟩
/-- a row is declared -/
theorem GlbR.row {f10 f11 f12 f13 f16 f17 f18 f19 f20 f21 f22 f23 f24 f25 f26 f27 : Nat → Int32} {nm se pa va nu x y : Nat} {v w : Int32} (h : GlbR f10 f11 f12 f13 f16 f17 f18 f19 f20 f21 f22 f23 f24 f25 f26 f27 nm se pa va nu) (hn : nm < 40) (e1 : v = nI x) (e2 : w = nI y) (hxy : x + y ≤ 4000) :
    GlbR (upd f10 (nI nm).toNatClampNeg 4) (upd f11 (nI nm).toNatClampNeg v) (upd f12 (nI nm).toNatClampNeg w) (upd f13 (nI nm).toNatClampNeg 0) f16 f17 f18 f19 f20 f21 f22 f23 f24 f25 f26 f27 (nm + 1) se pa va nu := by
  obtain ⟨⟨b1, b2, b3⟩, b4, b5, b6, b7, b8⟩ := h
  exact ⟨⟨by omega, by omega, b3⟩, b4.push (by omega) e1 e2 hxy, b5.push (by omega) (Nat.le_refl _) (Nat.le_refl _) (Nat.le_refl _) nI_0.symm (by omega) (fun q => absurd q (by decide)) (fun q => absurd q (by decide)) (fun q => absurd q (by decide)), b6, b7, b8⟩
