/-- the model's numbers are in their bounds, out of what a read leaves -/
theorem mdlB_of {F : Nat → Nat → Int32} {gn : Nat} (h1 : ∀ k, k < 9 → (-999 ≤ (F 56 k).toInt ∧ (F 56 k).toInt ≤ 999) ∧ -999 ≤ (F 57 k).toInt ∧ (F 57 k).toInt ≤ 999) (h2 : WnO (F 60)) (h3 : GoO (F 63) (F 64) gn) (h4 : ∀ k, k < 9 → -999 ≤ (F 70 k).toInt ∧ (F 70 k).toInt ≤ 999) : MdlB F gn := by
  refine ⟨fun k hk => (h1 k hk).1, fun k hk => (h1 k hk).2, h2.1, h2.2, fun g hg => ?_, fun g k hg hk => ?_, h4⟩
  · have h := h3 g 0 hg (by decide)
    rw [if_pos rfl, Nat.add_zero] at h
    exact ⟨⟨by omega, by omega⟩, by omega, by omega⟩
  · have h := h3 g (1 + k) hg (by omega)
    rw [if_neg (show ¬ (1 + k = 0) by omega), ← Nat.add_assoc] at h
    exact ⟨⟨by omega, by omega⟩, by omega, by omega⟩
/-- what holds of the reference between two calls (vn .. dO: its counts) -/
def InvR (vi : Nat → Int32) (vF : Nat → Nat → Int32) (mg : Nat → Int) (vn mr gq dn ar hn ru cl tp nd pn dO : Nat) : Prop :=
  Bg (vF 0) mg ∧ (vi 90 = nI vn ∧ vn ≤ 8 ∧ vi 91 = nI mr ∧ mr ≤ 12 ∧ vi 93 = nI gq ∧ gq ≤ 3 ∧ vi 92 = nI dn ∧ dn ≤ 8) ∧ (vi 150 = nI ar ∧ ar ≤ 40 ∧ vi 128 = nI hn ∧ hn ≤ 10 ∧ vi 129 = nI ru ∧ ru ≤ 12 ∧ vi 146 = nI cl ∧ cl ≤ 24) ∧ (vi 16 = nI tp ∧ tp ≤ 4000 ∧ vi 119 = nI nd ∧ nd ≤ 28 ∧ vi 125 = nI pn ∧ pn ≤ 30000 ∧ vi 74 = nI dO) ∧
  (MdlB vF gq ∧ WnO (vF 60) ∧ WmO (vF 59) mr ∧ (∀ k, k < vn → (vF 56 k).toInt ≤ (vF 57 k).toInt)) ∧ (NmO (vF 14) (vF 15) 60 ∧ EnO (vF 51) ∧ PtO (vF 22) (vF 23)) ∧
  (ArO (vF 95) (vF 96) (vF 97) (vF 98) ar ∧ DoO (vF 78) hn ∧ RuO (vF 80) (vF 81) (vF 82) (vF 83) hn ru ∧ LmO (vi 145) ∧ Bo (vF 105)) ∧
  (AnsB mg 1020 ∧ AnsB mg 1000 ∧ (vi 113 ≠ 0 → AnsP mg 1000 gq) ∧ (vi 113 = 0 ∨ vi 113 = 1) ∧ (vi 117 ≠ 0 → 0 < mg 1051 ∧ 0 < mg 1052) ∧ (vi 117 = 0 ∨ vi 117 = 1))
