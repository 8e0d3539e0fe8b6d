def ChO (f59 f69 : Nat → Int32) (mr : Nat) : Prop := ∀ r, r < mr → ∃ w d : Nat, f59 r = nI w ∧ 1 ≤ w ∧ w ≤ 3 ∧ f69 r = nI d ∧ d < w
def cD (f : Nat → Int32) (r : Nat) : Nat := (f r).toNatClampNeg
theorem ChO.dg {f59 f69 : Nat → Int32} {mr : Nat} (h : ChO f59 f69 mr) {r : Nat} (hr : r < mr) : cD f69 r < cD f59 r := by
  obtain ⟨w, d, h1, h2, h3, h4, h5⟩ := h r hr
  unfold cD; rw [h1, h4, nI_clamp (by omega), nI_clamp (by omega)]; exact h5
theorem ChO.next {f59 f69 g : Nat → Int32} {mr r w d : Nat} (h : ChO f59 f69 mr) (hr : r < mr) (e1 : f59 r = nI w) (hw : w ≤ 3) (e2 : f69 r = nI d) (hd : d + 1 < w) (h1 : ∀ q, q < r → g q = f69 q) (h2 : g r = nI (d + 1)) (h3 : ∀ q, r < q → q < mr → g q = 0) :
    ChO f59 g mr ∧ odo (cD f69) (cD f59) mr < odo (cD g) (cD f59) mr := by
  refine ⟨fun q hq => ?_, odo_up (r := r) (fun q hq => by unfold cD; rw [h1 q hq]) (by unfold cD; rw [h2, e2, nI_clamp (by omega), nI_clamp (by omega)]; omega) mr hr (fun q _ hq2 => h.dg hq2)⟩
  obtain ⟨w', d', k1, k2, k3, k4, k5⟩ := h q hq
  rcases Nat.lt_trichotomy q r with e | e | e
  · exact ⟨w', d', k1, k2, k3, by rw [h1 q e]; exact k4, k5⟩
  · subst e; exact ⟨w, d + 1, e1, by omega, hw, h2, hd⟩
  · exact ⟨w', 0, k1, k2, k3, (h3 q e hq).trans nI_0.symm, by omega⟩
theorem ChO.zero {f59 f69 g : Nat → Int32} {mr : Nat} (h : ChO f59 f69 mr) (h3 : ∀ q, q < mr → g q = 0) : ChO f59 g mr := fun q hq => by
  obtain ⟨w', d', k1, k2, k3, k4, k5⟩ := h q hq
  exact ⟨w', 0, k1, k2, k3, (h3 q hq).trans nI_0.symm, by omega⟩
def VaO (f56 f57 f58 f70 : Nat → Int32) (vn : Nat) : Prop := ∀ k, k < vn → (f56 k).toInt ≤ (f57 k).toInt ∧ (f58 k = 0 → f70 k = f56 k) ∧ (f56 k).toInt ≤ (f70 k).toInt ∧ (f70 k).toInt ≤ (f57 k).toInt
def vD (f56 f70 : Nat → Int32) (k : Nat) : Nat := ((f70 k).toInt - (f56 k).toInt).toNat
def vR (f56 f57 : Nat → Int32) (k : Nat) : Nat := ((f57 k).toInt - (f56 k).toInt + 1).toNat
theorem VaO.dg {f56 f57 f58 f70 : Nat → Int32} {vn : Nat} (h : VaO f56 f57 f58 f70 vn) {k : Nat} (hk : k < vn) : vD f56 f70 k < vR f56 f57 k := by
  obtain ⟨h1, h2, h3, h4⟩ := h k hk
  unfold vD vR; omega
theorem VaO.next {f56 f57 f58 f70 g : Nat → Int32} {vn r : Nat} (h : VaO f56 f57 f58 f70 vn) (hr : r < vn) (hw : f58 r ≠ 0) (h1 : ∀ q, q < r → g q = f70 q) (h2 : (g r).toInt = (f70 r).toInt + 1) (hh : (g r).toInt ≤ (f57 r).toInt) (h3 : ∀ q, r < q → q < vn → g q = f56 q) :
    VaO f56 f57 f58 g vn ∧ odo (vD f56 f70) (vR f56 f57) vn < odo (vD f56 g) (vR f56 f57) vn := by
  refine ⟨fun q hq => ?_, odo_up (r := r) (fun q hq => by unfold vD; rw [h1 q hq]) (by have := h r hr; unfold vD; omega) vn hr (fun q _ hq2 => h.dg hq2)⟩
  obtain ⟨k1, k2, k3, k4⟩ := h q hq
  rcases Nat.lt_trichotomy q r with e | e | e
  · rw [h1 q e]; exact ⟨k1, k2, k3, k4⟩
  · subst e; exact ⟨k1, fun h9 => absurd h9 hw, by omega, hh⟩
  · rw [h3 q e hq]; exact ⟨k1, fun _ => rfl, Int.le_refl _, k1⟩
theorem VaO.low {f56 f57 f58 f70 g : Nat → Int32} {vn : Nat} (h : VaO f56 f57 f58 f70 vn) (h3 : ∀ q, q < vn → g q = f56 q) : VaO f56 f57 f58 g vn := fun q hq => by
  obtain ⟨k1, k2, k3, k4⟩ := h q hq
  rw [h3 q hq]; exact ⟨k1, fun _ => rfl, Int.le_refl _, k1⟩
