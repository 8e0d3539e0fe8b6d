/-- the parts that have been read -/
def PaN (G : RG) (f29 f66 : Nat → Int32) (pm : Nat) : Prop := ∀ i, i < pm → ∃ c, f66 i = nI c ∧ LinO G f29 c 51
/-- the reader between two expressions -/
def RdD (T : Nat → Nat → Int32) (G : RG) (f29 f30 f31 f32 f36 f37 f38 : Nat → Int32) (G' : RG) (g29 g30 g31 g32 g36 g37 g38 g66 : Nat → Int32) (se bs bs' wi nd bd fn pm : Nat) : Prop :=
  RdV T G' g29 g30 g31 g32 g36 g37 g38 se nd bs' ∧ Ext 0 bs G f29 f30 f31 f32 f36 f37 f38 G' g29 g30 g31 g32 g36 g37 g38 ∧ (wi = 0 ∧ nd ≤ fn ∧ G'.vN ≤ nd ∧ 5 * bs' ≤ fn ∧ bd ≤ 2 ∧ bs ≤ bs') ∧ PaN G' g29 g66 pm
theorem Ext.paN {bs : Nat} {G G' : RG} {f29 f30 f31 f32 f36 f37 f38 g29 g30 g31 g32 g36 g37 g38 f66 : Nat → Int32} {pm : Nat} (e : Ext 0 bs G f29 f30 f31 f32 f36 f37 f38 G' g29 g30 g31 g32 g36 g37 g38) (h : PaN G f29 f66 pm) : PaN G' g29 f66 pm := fun i hi => by
  obtain ⟨c, h1, h2⟩ := h i hi
  exact ⟨c, h1, e.lin h2⟩
theorem RdF.part {T : Nat → Nat → Int32} {G G' : RG} {f29 f30 f31 f32 f36 f37 f38 g29 g30 g31 g32 g36 g37 g38 f66 : Nat → Int32} {res : Int32} {se bs bs' wi nd bd fn pm : Nat} (h : RdF T G f29 f30 f31 f32 f36 f37 f38 G' g29 g30 g31 g32 g36 g37 g38 res se bs bs' 0 wi nd bd fn) (hP : PaN G f29 f66 pm) (hp : pm < 200) : RdD T G f29 f30 f31 f32 f36 f37 f38 G' g29 g30 g31 g32 g36 g37 g38 (upd f66 (nI pm).toNatClampNeg res) se bs bs' wi nd bd fn (pm + 1) := by
  obtain ⟨h1, h2, h3, c, h4, h5⟩ := h
  refine ⟨h1, h2, h3, fun i hi => ?_⟩
  by_cases e : i = pm
  · subst e
    rcases h5 with h5 | h5
    · exact ⟨c, by rw [upd_at (by omega), if_pos rfl]; exact h4, h5.2⟩
    · exact absurd h5.1 (by decide)
  · rw [upd_at (by omega), if_neg e]
    exact h2.paN hP i (by omega)
theorem RdD.trans {T : Nat → Nat → Int32} {G G' G'' : RG} {f29 f30 f31 f32 f36 f37 f38 g29 g30 g31 g32 g36 g37 g38 e29 e30 e31 e32 e36 e37 e38 g66 : Nat → Int32} {se bs bs' bs'' wi nd bd fn pm : Nat} (h1 : Ext 0 bs G f29 f30 f31 f32 f36 f37 f38 G' g29 g30 g31 g32 g36 g37 g38) (hb : bs ≤ bs') (h : RdD T G' g29 g30 g31 g32 g36 g37 g38 G'' e29 e30 e31 e32 e36 e37 e38 g66 se bs' bs'' wi nd bd fn pm) : RdD T G f29 f30 f31 f32 f36 f37 f38 G'' e29 e30 e31 e32 e36 e37 e38 g66 se bs bs'' wi nd bd fn pm :=
  ⟨h.1, h1.trans h.2.1 hb, ⟨h.2.2.1.1, h.2.2.1.2.1, h.2.2.1.2.2.1, h.2.2.1.2.2.2.1, h.2.2.1.2.2.2.2.1, Nat.le_trans hb h.2.2.1.2.2.2.2.2⟩, h.2.2.2⟩
