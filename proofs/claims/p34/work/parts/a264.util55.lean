theorem Ext.trans {gm bs bs' : Nat} {G G' G'' : RG} {f29 f30 f31 f32 f36 f37 f38 g29 g30 g31 g32 g36 g37 g38 e29 e30 e31 e32 e36 e37 e38 : Nat → Int32} (h1 : Ext gm bs G f29 f30 f31 f32 f36 f37 f38 G' g29 g30 g31 g32 g36 g37 g38) (h2 : Ext gm bs' G' g29 g30 g31 g32 g36 g37 g38 G'' e29 e30 e31 e32 e36 e37 e38) (hb : bs ≤ bs') : Ext gm bs G f29 f30 f31 f32 f36 f37 f38 G'' e29 e30 e31 e32 e36 e37 e38 := by
  refine ⟨fun q hq => ?_, fun q hq => ?_, fun q hq h => h1.2.2.1 q hq (h2.2.2.1 q hq h), fun b hb' => ?_⟩
  · obtain ⟨a1, a2, a3, a4⟩ := h1.1 q hq
    obtain ⟨b1, b2, b3, b4⟩ := h2.1 q hq
    exact ⟨b1.trans a1, b2.trans a2, b3.trans a3, b4.trans a4⟩
  · obtain ⟨a1, a2, a3⟩ := h1.2.1 q hq
    obtain ⟨b1, b2, b3⟩ := h2.2.1 q a1
    exact ⟨b1, b2.trans a2, b3.trans a3⟩
  · obtain ⟨a1, a2, a3⟩ := h1.2.2.2 b hb'
    obtain ⟨b1, b2, b3⟩ := h2.2.2.2 b (by omega)
    exact ⟨b1.trans a1, b2.trans a2, b3.trans a3⟩
/-- an expression has been read -/
def RdF (T : Nat → Nat → Int32) (G : RG) (f29 f30 f31 f32 f36 f37 f38 : Nat → Int32) (G' : RG) (g29 g30 g31 g32 g36 g37 g38 : Nat → Int32) (res : Int32) (se bs bs' r0 wi nd bd fn : Nat) : Prop :=
  RdV T G' g29 g30 g31 g32 g36 g37 g38 se nd bs' ∧ Ext 0 bs G f29 f30 f31 f32 f36 f37 f38 G' g29 g30 g31 g32 g36 g37 g38 ∧ (wi = 0 ∧ nd ≤ fn ∧ G'.vN ≤ nd ∧ 5 * bs' ≤ fn ∧ bd ≤ 2 ∧ bs ≤ bs') ∧ ∃ c, res = nI c ∧ ((r0 ≤ 1 ∧ LinO G' g29 c 51) ∨ (2 ≤ r0 ∧ TruO G' g29 c 51))
theorem RdS.done {T : Nat → Nat → Int32} {G G' : RG} {f29 f30 f31 f32 f36 f37 f38 g29 g30 g31 g32 g36 g37 g38 f39 f40 f41 f42 f48 : Nat → Int32} {wd sg res : Int32} {se bs bs' r0 wi nd bd fn M : Nat} (h : RdS T G' g29 g30 g31 g32 g36 g37 g38 f39 f40 f41 f42 f48 wd sg res se bs' r0 0 wi nd bd fn M) (e : Ext 0 bs G f29 f30 f31 f32 f36 f37 f38 G' g29 g30 g31 g32 g36 g37 g38) (hb : bs ≤ bs') : RdF T G f29 f30 f31 f32 f36 f37 f38 G' g29 g30 g31 g32 g36 g37 g38 res se bs bs' r0 wi nd bd fn := by
  obtain ⟨h1, h2⟩ := h
  rcases h2 with ⟨_, a1, a2, a3, a4, a5, a6⟩ | ⟨d, _, _, _, _, _, _, _, _, _, _, _, _, h, _⟩
  · exact ⟨h1, e, ⟨a1, a2, a3, a4, a5, hb⟩, a6⟩
  · omega
theorem RdS.top {T : Nat → Nat → Int32} {G' : RG} {g29 g30 g31 g32 g36 g37 g38 f39 f40 f41 f42 f48 : Nat → Int32} {wd sg res : Int32} {se bs' r0 de wi nd bd fn M : Nat} (h : RdS T G' g29 g30 g31 g32 g36 g37 g38 f39 f40 f41 f42 f48 wd sg res se bs' r0 de wi nd bd fn M) (hd : 0 < de) : RdV T G' g29 g30 g31 g32 g36 g37 g38 se nd bs' ∧ ∃ ek cw u pe un gl gm ex p1 n1 m1 tw, RdT T G' g29 g30 g31 g32 g36 g37 g38 f39 f40 f41 f42 f48 wd sg res se bs' r0 (de - 1) wi nd bd fn M ek cw u pe un gl gm ex p1 n1 m1 tw := by
  obtain ⟨h1, h2⟩ := h
  rcases h2 with h2 | ⟨d, a1, a2, a3, a4, a5, a6, a7, a8, a9, a10, a11, a12, rfl, h3⟩
  · exact absurd h2.1 (by omega)
  · exact ⟨h1, a1, a2, a3, a4, a5, a6, a7, a8, a9, a10, a11, a12, h3⟩
theorem RTp.least {T : Nat → Nat → Int32} {G : RG} {f29 f30 f31 f32 f36 f37 f38 f40 f41 f42 : Nat → Int32} {wd sg res : Int32} {se bs i ek w u ex gl gm p1 n1 m1 tw : Nat} (h : RTp T G f29 f30 f31 f32 f36 f37 f38 f40 f41 f42 wd sg res se bs i ek w u ex gl gm p1 n1 m1 tw) : 1 ≤ tw ∧ m1 ≤ 1 := by
  rcases h with ⟨_, _, _, ⟨_, _, h1, _⟩, _, _, h2⟩ | ⟨h1, ck, ⟨_, h2⟩, _⟩
  · omega
  · refine ⟨by omega, ?_⟩
    rcases h2 with h | h | h | h | h | h | h | h | h | h | h | h
    all_goals (obtain ⟨_, _, _, _, h5, _⟩ := h; omega)
