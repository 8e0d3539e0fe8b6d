theorem row_lt {C a b : Nat} (h : a ≤ b) : a * (C + 1) ≤ b * (C + 1) := Nat.mul_le_mul_right _ h
theorem GldG.more {C R T : Nat} {m m2 : Nat → Int} (h : GldG C R T m) (hRT : R < T) (e : ∀ p, 30 ≤ p → p < 30 + T * (C + 1) → m2 p = m p) (hr : ∀ j, j ≤ C → (m2 (30 + T * (C + 1) + j)).natAbs < 2 ^ 74) : GldG C R (T + 1) m2 := by
  have h2 := h.frame hRT e
  refine ⟨h2.1, fun i h1 h3 j hj => ?_⟩
  by_cases e9 : i = T
  · subst e9; exact hr j hj
  · exact h2.2 i h1 (by omega) j hj
theorem VaO.first {f56 f57 f58 g : Nat → Int32} {vn : Nat} (h : ∀ k, k < vn → (f56 k).toInt ≤ (f57 k).toInt) (h3 : ∀ q, q < vn → g q = f56 q) : VaO f56 f57 f58 g vn := fun q hq => by
  rw [h3 q hq]; exact ⟨h q hq, fun _ => rfl, Int.le_refl _, h q hq⟩
def WmO (f59 : Nat → Int32) (mr : Nat) : Prop := ∀ r, r < mr → ∃ w : Nat, f59 r = nI w ∧ 1 ≤ w ∧ w ≤ 3
theorem ChO.first {f59 g : Nat → Int32} {mr : Nat} (h : WmO f59 mr) (h3 : ∀ q, q < mr → g q = 0) : ChO f59 g mr := fun q hq => by
  obtain ⟨w, h1, h2, h4⟩ := h q hq
  exact ⟨w, 0, h1, h2, h4, (h3 q hq).trans nI_0.symm, by omega⟩
theorem MdlB.val {F : Nat → Nat → Int32} {gq : Nat} (h : MdlB F gq) {f : Nat → Int32} (hf : ∀ k, k < 9 → -999 ≤ (f k).toInt ∧ (f k).toInt ≤ 999) : MdlB (fT F 70 f) gq :=
  ⟨h.1, h.2.1, h.2.2.1, h.2.2.2.1, h.2.2.2.2.1, h.2.2.2.2.2.1, hf⟩
/-- values within their bounds stay within 999 -/
theorem VaO.box {F : Nat → Nat → Int32} {gq vn : Nat} {f58 f : Nat → Int32} (hM : MdlB F gq) (h : VaO (F 56) (F 57) f58 f vn) (h2 : ∀ q, vn ≤ q → f q = F 70 q) : ∀ k, k < 9 → -999 ≤ (f k).toInt ∧ (f k).toInt ≤ 999 := fun k hk => by
  by_cases e : k < vn
  · obtain ⟨h3, _, h4, h5⟩ := h k e
    have h6 := hM.1 k hk
    have h7 := hM.2.1 k hk
    omega
  · rw [h2 k (by omega)]; exact hM.2.2.2.2.2.2 k hk
theorem AnsB.taken {m m2 : Nat → Int} (h : AnsB m 1020) (e : ∀ k, k < 16 → m2 (1000 + k) = m (1020 + k)) : AnsB m2 1000 :=
  ⟨fun k hk => by rw [e k (by omega)]; exact h.1 k hk, fun g hg => by rw [show 1000 + 10 + g = 1000 + (10 + g) by omega, show 1000 + 13 + g = 1000 + (13 + g) by omega, e _ (by omega), e _ (by omega)]; exact ⟨by have := (h.2 g hg).1; rw [show 1020 + (10 + g) = 1020 + 10 + g by omega]; exact this, by have := (h.2 g hg).2; rw [show 1020 + (13 + g) = 1020 + 13 + g by omega]; exact this⟩⟩
/-- the answer's divisors are above nought -/
def AnsP (m : Nat → Int) (b gq : Nat) : Prop := 0 < m (b + 8) ∧ ∀ g, g < gq → 0 < m (b + 13 + g)
theorem AnsP.frame {m m2 : Nat → Int} {b gq : Nat} (h : AnsP m b gq) (hg : gq ≤ 3) (e : ∀ p, b ≤ p → p < b + 16 → m2 p = m p) : AnsP m2 b gq :=
  ⟨by rw [e _ (by omega) (by omega)]; exact h.1, fun g hg2 => by rw [e _ (by omega) (by omega)]; exact h.2 g hg2⟩
theorem AnsP.taken {m m2 : Nat → Int} {gq : Nat} (h : 0 < m 1028 ∧ ∀ g, g < gq → 0 < m (1033 + g)) (hg : gq ≤ 3) (e : ∀ k, k < 16 → m2 (1000 + k) = m (1020 + k)) : AnsP m2 1000 gq :=
  ⟨by rw [e 8 (by omega)]; exact h.1, fun g hg2 => by rw [show 1000 + 13 + g = 1000 + (13 + g) by omega, e _ (by omega), show 1020 + (13 + g) = 1033 + g by omega]; exact h.2 g hg2⟩
