theorem Sx.c4 {C R T : Nat} {a t : Nat → Nat → Int} {D : Int} {f4 f5 : Nat → Int32} (h : Sx C R T a t D f4 f5) (hC : C ≤ 45) (hT : T < 60) {j : Nat} (hj : j < C) : f4 j = nI (f4 j).toNatClampNeg ∧ (f4 j).toNatClampNeg < C + T := by
  obtain ⟨q, h1, h2⟩ := h.2.1 j hj
  rw [h2, nI_clamp (by omega)]; exact ⟨rfl, h1⟩
theorem Sx.r5 {C R T : Nat} {a t : Nat → Nat → Int} {D : Int} {f4 f5 : Nat → Int32} (h : Sx C R T a t D f4 f5) (hC : C ≤ 45) (hT : T < 60) {i : Nat} (hi : i < R) : f5 i = nI (f5 i).toNatClampNeg ∧ (f5 i).toNatClampNeg < C + T := by
  obtain ⟨q, h1, h2⟩ := h.2.2 i hi
  rw [h2, nI_clamp (by omega)]; exact ⟨rfl, h1⟩
/-- the labels that are held still -/
def stS (C : Nat) (f6 f4 : Nat → Int32) (q : Nat) : Prop := q = C ∨ ∃ k, k < C ∧ f6 k ≠ 0 ∧ clF C f4 k = q
theorem Sx.step {C R T gn : Nat} {a t : Nat → Nat → Int} {D : Int} {f4 f5 f6 f40 : Nat → Int32} (h : Sx C R T a t D f4 f5) (hsm : Small C R T a) (hRg : R ≤ gn) (hgT : gn < T) (hT60 : T < 60) (hC45 : C ≤ 45) (hG : ∀ i, i < R → 0 ≤ t i C)
    (hst : ∀ k, k < C → f6 k ≠ 0 → f4 k = f40 k) {c r : Nat} (hc : c < C) (h6 : f6 c = 0) (hneg : t gn c < 0) (hleast : ∀ k, k < C → f6 k = 0 → t gn k < 0 → (f4 c).toNatClampNeg ≤ (f4 k).toNatClampNeg) (hr : r < R) (hb : Bst t C c (fun i => (f5 i).toNatClampNeg) R r) :
    Sx C R T a (nvT r c (sgI (t r c)) t D) (sgI (t r c) * t r c) (upd f4 (nI c).toNatClampNeg (f5 r)) (upd f5 (nI r).toNatClampNeg (f4 c)) ∧ (∀ i, i < R → 0 ≤ nvT r c (sgI (t r c)) t D i C) ∧ (∀ k, k < C → f6 k ≠ 0 → upd f4 (nI c).toNatClampNeg (f5 r) k = f40 k) ∧
    ∀ N, Ends R T (C + 1) C gn (stS C f6 f40) 200 (2 ^ 294) N (t, D, rlF C R f5, clF C f4) → ∃ N1, N = N1 + 1 ∧ Ends R T (C + 1) C gn (stS C f6 f40) 200 (2 ^ 294) N1 (nvT r c (sgI (t r c)) t D, sgI (t r c) * t r c, rlF C R (upd f5 (nI r).toNatClampNeg (f4 c)), clF C (upd f4 (nI c).toNatClampNeg (f5 r))) := by
  have hp : t r c ≠ 0 := by have := hb.1; omega
  obtain ⟨hS, hP⟩ := h.next hr (by omega) hc hT60 hC45 (sgI_or _) (sgI_pos hp)
  have hS1 := h.1
  have hLb := hS1.2.2.1
  have hcl : ∀ k, k < C → clF C f4 k = gl C (f4 k).toNatClampNeg := fun k hk => by unfold clF; rw [if_pos hk]
  have hrl : ∀ i, i < R → rlF C R f5 i = gl C (f5 i).toNatClampNeg := fun i hi => by unfold rlF; rw [if_pos hi]
  have hsame : ∀ k, k < C → f6 k ≠ 0 → clF C f40 k = clF C f4 k := fun k hk h6k => by unfold clF; rw [if_pos hk, if_pos hk, hst k hk h6k]
  have hRul : Rul R T (C + 1) C gn (stS C f6 f40) (t, D, rlF C R f5, clF C f4) r c := by
    refine ⟨hr, by omega, by omega, hb.1, hneg, ?_, ?_, ?_⟩
    · rintro (e | ⟨k, hk, h6k, e⟩)
      · have e : clF C f4 c = C := e
        rw [hcl c hc] at e; exact gl_ne C _ e
      · rw [hsame k hk h6k] at e
        have := hLb.2.1 k c (by omega) (by omega) e
        subst this; exact h6k h6
    · intro k hk hns hn
      show clF C f4 c ≤ clF C f4 k
      by_cases ek : k = C
      · subst ek; exact absurd (Or.inl (hS1.2.2.2.2.2.1)) hns
      · have hkC : k < C := by omega
        have h6k : f6 k = 0 := Classical.byContradiction fun h9 => hns (Or.inr ⟨k, hkC, h9, hsame k hkC h9⟩)
        rw [hcl c hc, hcl k hkC]
        exact gl_le (hleast k hkC h6k hn)
    · intro i hi hpi
      show t r C * t i c < t i C * t r c ∨ (t r C * t i c = t i C * t r c ∧ rlF C R f5 r ≤ rlF C R f5 i)
      rcases hb.2 i hi hpi with h9 | ⟨h9, h8⟩
      · exact Or.inl h9
      · exact Or.inr ⟨h9, by rw [hrl r hr, hrl i hi]; exact gl_le h8⟩
  have hEx : Exc R T (C + 1) C gn (stS C f6 f40) (t, D, rlF C R f5, clF C f4) (nvT r c (sgI (t r c)) t D, sgI (t r c) * t r c, rlF C R (upd f5 (nI r).toNatClampNeg (f4 c)), clF C (upd f4 (nI c).toNatClampNeg (f5 r))) (clF C f4 c) (rlF C R f5 r) false :=
    ⟨r, c, _, hP, hRul, fun h9 => absurd h9 (by decide), rfl, rfl⟩
  have hGd : Gd R T (C + 1) C (t, D, rlF C R f5, clF C f4) := ⟨hLb, hS1.2.1, hG⟩
  have hGd2 := hEx.gd (by omega) (by omega) hGd
  have hsmall := hsm _ _ _ _ hS1
  have hb1 := hsmall.2 gn hgT C (Nat.le_refl _)
  have hOk : Okay R T (C + 1) C gn (stS C f6 f40) (2 ^ 294) (t, D, rlF C R f5, clF C f4) := by
    refine ⟨by omega, by omega, hRg, hgT, hGd, ?_, ?_, ?_, ?_⟩
    · rintro q (e | ⟨k, hk, h6k, e⟩)
      · exact ⟨C, by omega, by rw [e]; exact hS1.2.2.2.2.2.1⟩
      · exact ⟨k, by omega, by rw [← e]; exact (hsame k hk h6k).symm⟩
    · have := hsmall.1
      show D ≤ ((2 ^ 294 : Nat) : Int); omega
    · show t gn C ≤ ((2 ^ 294 : Nat) : Int); omega
    · show -((2 ^ 294 : Nat) : Int) ≤ t gn C; omega
  refine ⟨hS, hGd2.2.2, fun k hk h6k => ?_, fun N hE => ?_⟩
  · rw [upd_at (by omega), if_neg (fun e => h6k (by rw [e]; exact h6))]; exact hst k hk h6k
  · have hpos := hE.pos hOk
    obtain ⟨N1, rfl⟩ : ∃ N1, N = N1 + 1 := ⟨N - 1, by omega⟩
    refine ⟨N1, rfl, hE.next hOk hEx ?_ ?_⟩
    · have := hS1.2.2.2.2.2.2.2 c (by omega); omega
    · have := hS1.2.2.2.2.2.2.1 r (by omega); omega
