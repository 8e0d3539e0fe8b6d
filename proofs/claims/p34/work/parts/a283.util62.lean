/-- the model's numbers are in their bounds, out of what a read leaves -/
theorem mdlB_of {F : Nat → Nat → Int32} {gn : Nat} (h1 : ∀ k, k < 9 → (-999 ≤ (F 56 k).toInt ∧ (F 56 k).toInt ≤ 999) ∧ -999 ≤ (F 57 k).toInt ∧ (F 57 k).toInt ≤ 999) (h2 : WnO (F 60)) (h3 : GoO (F 63) (F 64) gn) (h4 : ∀ k, k < 9 → -999 ≤ (F 70 k).toInt ∧ (F 70 k).toInt ≤ 999) : MdlB F gn := by
  refine ⟨fun k hk => (h1 k hk).1, fun k hk => (h1 k hk).2, h2.1, h2.2, fun g hg => ?_, fun g k hg hk => ?_, h4⟩
  · have h := h3 g 0 hg (by decide)
    rw [if_pos rfl, Nat.add_zero] at h
    exact ⟨⟨by omega, by omega⟩, by omega, by omega⟩
  · have h := h3 g (1 + k) hg (by omega)
    rw [if_neg (show ¬ (1 + k = 0) by omega), ← Nat.add_assoc] at h
    exact ⟨⟨by omega, by omega⟩, by omega, by omega⟩
/-- what holds of the reference between two calls (vn .. dO: its counts) -/
def InvR (vi : Nat → Int32) (vF : Nat → Nat → Int32) (mg : Nat → Int) (vn mr gq dn ar hn ru cl tp nd pn dO : Nat) : Prop :=
  Bg (vF 0) mg ∧ (vi 90 = nI vn ∧ vn ≤ 8 ∧ vi 91 = nI mr ∧ mr ≤ 12 ∧ vi 93 = nI gq ∧ gq ≤ 3 ∧ vi 92 = nI dn ∧ dn ≤ 8) ∧ (vi 150 = nI ar ∧ ar ≤ 40 ∧ vi 128 = nI hn ∧ hn ≤ 10 ∧ vi 129 = nI ru ∧ ru ≤ 12 ∧ vi 146 = nI cl ∧ cl ≤ 24) ∧ (vi 16 = nI tp ∧ tp ≤ 4000 ∧ vi 119 = nI nd ∧ nd ≤ 28 ∧ vi 125 = nI pn ∧ pn ≤ 30000 ∧ vi 74 = nI dO) ∧
  (MdlB vF gq ∧ WnO (vF 60) ∧ WmO (vF 59) mr ∧ (∀ k, k < vn → (vF 56 k).toInt ≤ (vF 57 k).toInt)) ∧ (NmO (vF 14) (vF 15) 60 ∧ EnO (vF 51)) ∧
  (ArO (vF 95) (vF 96) (vF 97) (vF 98) ar ∧ DoO (vF 78) hn ∧ RuO (vF 80) (vF 81) (vF 82) (vF 83) hn ru ∧ LmO (vi 145) ∧ Bo (vF 105)) ∧
  (AnsB mg 1020 ∧ AnsB mg 1000 ∧ (vi 113 ≠ 0 → AnsP mg 1000 gq) ∧ (vi 113 = 0 ∨ vi 113 = 1) ∧ (vi 117 ≠ 0 → 0 < mg 1051 ∧ 0 < mg 1052) ∧ (vi 117 = 0 ∨ vi 117 = 1))
theorem ArO.less {f95 f96 f97 f98 : Nat → Int32} {ar a2 : Nat} (h : ArO f95 f96 f97 f98 ar) (hh : a2 ≤ ar) : ArO f95 f96 f97 f98 a2 := fun a ha => h a (Nat.lt_of_lt_of_le ha hh)
theorem AnsB.keep {m m2 : Nat → Int} {b : Nat} (h : AnsB m b) (e : ∀ q, b ≤ q → q < b + 20 → m2 q = m q) : AnsB m2 b := by
  refine ⟨fun k hk => ?_, fun g hg => ⟨?_, ?_⟩⟩
  · rw [e _ (by omega) (by omega)]; exact h.1 k hk
  · rw [e _ (by omega) (by omega)]; exact (h.2 g hg).1
  · rw [e _ (by omega) (by omega)]; exact (h.2 g hg).2
theorem AnsP.keep {m m2 : Nat → Int} {b gq : Nat} (h : AnsP m b gq) (hg : gq ≤ 3) (e : ∀ q, b ≤ q → q < b + 20 → m2 q = m q) : AnsP m2 b gq := by
  refine ⟨?_, fun g hq => ?_⟩
  · rw [e _ (by omega) (by omega)]; exact h.1
  · rw [e _ (by omega) (by omega)]; exact h.2 g hq
theorem EndO.le {tp t2 : Nat} {nv : Int32} (h : EndO tp nv) (e : t2 = tp + (nv).toInt.natAbs) : t2 ≤ 4000 := by
  obtain ⟨h1, h2, h3⟩ := h
  omega
theorem RuO.hold {f80 f81 f82 f83 : Nat → Int32} {hn h2 ru : Nat} (h : RuO f80 f81 f82 f83 hn ru) (hh : hn ≤ h2) : RuO f80 f81 f82 f83 h2 ru := fun r hr => (h r hr).mono hh
